abbrev As : Type := (Nat → Option Vw) × Nat × Nat × Option Rw × Int32
/-- the class's value: now, snapshot, has one or not, the states of the history, how many, the text -/
abbrev Xs : Type := As × As × Nat × (Nat → As) × Nat × (Nat → Nat) × Nat
def oel {α β : Type} (o : Option α) (d : β) (f : α → β) : β := match o with
  | none => d
  | some a => f a
theorem oel_n {α β : Type} {d : β} {f : α → β} : oel none d f = d := rfl
theorem oel_s {α β : Type} {a : α} {d : β} {f : α → β} : oel (some a) d f = f a := rfl
def vwA (vs : Nat → Option Vw) (x : Int32) : Option Vw := if x < 0 ∨ nI 24 ≤ x then none else vs x.toNatClampNeg
theorem stV.at {G : xG} {B : List Nat} {vf : Nat → Option Nat} {vs : Nat → Option Vw} {H : Heap} (h : stV G B vf vs H) (x : Int32) : (vwQ vf x = none ∧ vwA vs x = none) ∨ ∃ q v, vwQ vf x = some q ∧ vwA vs x = some v ∧ isView G B q v H := by
  unfold vwQ vwA
  by_cases hx : x < 0 ∨ nI 24 ≤ x
  · rw [if_pos hx, if_pos hx]; exact Or.inl ⟨rfl, rfl⟩
  · rw [if_neg hx, if_neg hx]
    obtain ⟨k, hk, rfl⟩ := nI_of (fun z => hx (Or.inl z))
    rw [nI_clamp hk]
    exact h k (Nat.not_le.mp (fun z => hx (Or.inr ((nI_leI (by decide) hk).mpr z))))
theorem vwA_lt {vs : Nat → Option Vw} {x : Int32} {v : Vw} (h : vwA vs x = some v) : ∃ k, k < 24 ∧ x = nI k ∧ vs k = some v := by
  unfold vwA at h
  by_cases hx : x < 0 ∨ nI 24 ≤ x
  · rw [if_pos hx] at h; cases h
  · rw [if_neg hx] at h
    obtain ⟨k, hk, rfl⟩ := nI_of (fun z => hx (Or.inl z))
    rw [nI_clamp hk] at h
    exact ⟨k, Nat.not_le.mp (fun z => hx (Or.inr ((nI_leI (by decide) hk).mpr z))), rfl, h⟩
def csR (G : xG) (B : List Nat) (cs : Cs) (a : As) (H : Heap) : Prop := stV G B cs.1 a.1 H ∧ stE G B cs.2.2.2.1 a.2.2.2.1 H ∧ cs.2.1 = a.2.1 ∧ cs.2.2.1 = a.2.2.1 ∧ cs.2.2.2.2 = a.2.2.2.2
theorem csR.kept {G : xG} {B : List Nat} {cs : Cs} {a : As} {H H1 : Heap} (h : csR G B cs a H) (hf : xFrm B H H1) : csR G B cs a H1 := ⟨h.1.kept hf, h.2.1.kept hf, h.2.2⟩
def tvI (G : xG) (B : List Nat) (t5 n0 nv sn sv hi ha s0 v0 s1 v1 s2 v2 s3 v3 tx tc tr tw tn : Nat) (X : Xs) (H : Heap) : Prop := ∃ (vf : Nat → Option Nat) (er : Option Nat) (vfs : Nat → Option Nat) (ers : Option Nat) (hc : Nat → Cs) (r : Nat) (tfv tfn : Nat → Int32) (tfl : Nat), va_P G.1 vwCl [(t5, .inr (5, [.ref n0, .ref sn, .int (nI X.2.2.1), .ref hi, .ref tx, .ref tr])), (n0, .inr (2, [.ref nv, .int (nI X.1.2.1), .int (nI X.1.2.2.1), va_rf er, .int X.1.2.2.2.2])), (nv, .inl (xcV G, 24, .inr (.inr (.inr (.inr vf))))), (sn, .inr (2, [.ref sv, .int (nI X.2.1.2.1), .int (nI X.2.1.2.2.1), va_rf ers, .int X.2.1.2.2.2.2])), (sv, .inl (xcV G, 24, .inr (.inr (.inr (.inr vfs))))), (hi, .inr (0, [.ref ha, .int (nI X.2.2.2.2.1)])), (ha, .inl (xcS G, 4, .inr (.inr (.inr (.inr (hfF s0 s1 s2 s3 r)))))), (s0, .inr (2, [.ref v0, .int (nI ((hc 0).2.1)), .int (nI ((hc 0).2.2.1)), va_rf ((hc 0).2.2.2.1), .int ((hc 0).2.2.2.2)])), (v0, .inl (xcV G, 24, .inr (.inr (.inr (.inr ((hc 0).1)))))), (s1, .inr (2, [.ref v1, .int (nI ((hc 1).2.1)), .int (nI ((hc 1).2.2.1)), va_rf ((hc 1).2.2.2.1), .int ((hc 1).2.2.2.2)])), (v1, .inl (xcV G, 24, .inr (.inr (.inr (.inr ((hc 1).1)))))), (s2, .inr (2, [.ref v2, .int (nI ((hc 2).2.1)), .int (nI ((hc 2).2.2.1)), va_rf ((hc 2).2.2.2.1), .int ((hc 2).2.2.2.2)])), (v2, .inl (xcV G, 24, .inr (.inr (.inr (.inr ((hc 2).1)))))), (s3, .inr (2, [.ref v3, .int (nI ((hc 3).2.1)), .int (nI ((hc 3).2.2.1)), va_rf ((hc 3).2.2.2.1), .int ((hc 3).2.2.2.2)])), (v3, .inl (xcV G, 24, .inr (.inr (.inr (.inr ((hc 3).1)))))), (tx, .inr (3, [.ref tc, .int (nI X.2.2.2.2.2.2)])), (tc, .inl (xcC G, 60, .inl (nf X.2.2.2.2.2.1))), (tr, .inr (1, [.ref tw, .ref tn, .int (nI tfl)])), (tw, .inl (xcI G, 300, .inl tfv)), (tn, .inl (xcI G, 101, .inl tfn))] H ∧ (stV G B vf X.1.1 H ∧ stE G B er X.1.2.2.2.1 H) ∧ (stV G B vfs X.2.1.1 H ∧ stE G B ers X.2.1.2.2.2.1 H) ∧ ∀ j, j < X.2.2.2.2.1 → csR G B (hc ((j + r) % 4)) (X.2.2.2.1 j) H
theorem tvI.mk {G : xG} {B : List Nat} {t5 n0 nv sn sv hi ha s0 v0 s1 v1 s2 v2 s3 v3 tx tc tr tw tn : Nat} {X : Xs} {H : Heap} (vf : Nat → Option Nat) (er : Option Nat) (vfs : Nat → Option Nat) (ers : Option Nat) (hc : Nat → Cs) (r : Nat) (tfv tfn : Nat → Int32) (tfl : Nat) (hP : va_P G.1 vwCl [(t5, .inr (5, [.ref n0, .ref sn, .int (nI X.2.2.1), .ref hi, .ref tx, .ref tr])), (n0, .inr (2, [.ref nv, .int (nI X.1.2.1), .int (nI X.1.2.2.1), va_rf er, .int X.1.2.2.2.2])), (nv, .inl (xcV G, 24, .inr (.inr (.inr (.inr vf))))), (sn, .inr (2, [.ref sv, .int (nI X.2.1.2.1), .int (nI X.2.1.2.2.1), va_rf ers, .int X.2.1.2.2.2.2])), (sv, .inl (xcV G, 24, .inr (.inr (.inr (.inr vfs))))), (hi, .inr (0, [.ref ha, .int (nI X.2.2.2.2.1)])), (ha, .inl (xcS G, 4, .inr (.inr (.inr (.inr (hfF s0 s1 s2 s3 r)))))), (s0, .inr (2, [.ref v0, .int (nI ((hc 0).2.1)), .int (nI ((hc 0).2.2.1)), va_rf ((hc 0).2.2.2.1), .int ((hc 0).2.2.2.2)])), (v0, .inl (xcV G, 24, .inr (.inr (.inr (.inr ((hc 0).1)))))), (s1, .inr (2, [.ref v1, .int (nI ((hc 1).2.1)), .int (nI ((hc 1).2.2.1)), va_rf ((hc 1).2.2.2.1), .int ((hc 1).2.2.2.2)])), (v1, .inl (xcV G, 24, .inr (.inr (.inr (.inr ((hc 1).1)))))), (s2, .inr (2, [.ref v2, .int (nI ((hc 2).2.1)), .int (nI ((hc 2).2.2.1)), va_rf ((hc 2).2.2.2.1), .int ((hc 2).2.2.2.2)])), (v2, .inl (xcV G, 24, .inr (.inr (.inr (.inr ((hc 2).1)))))), (s3, .inr (2, [.ref v3, .int (nI ((hc 3).2.1)), .int (nI ((hc 3).2.2.1)), va_rf ((hc 3).2.2.2.1), .int ((hc 3).2.2.2.2)])), (v3, .inl (xcV G, 24, .inr (.inr (.inr (.inr ((hc 3).1)))))), (tx, .inr (3, [.ref tc, .int (nI X.2.2.2.2.2.2)])), (tc, .inl (xcC G, 60, .inl (nf X.2.2.2.2.2.1))), (tr, .inr (1, [.ref tw, .ref tn, .int (nI tfl)])), (tw, .inl (xcI G, 300, .inl tfv)), (tn, .inl (xcI G, 101, .inl tfn))] H) (h1 : stV G B vf X.1.1 H) (h2 : stE G B er X.1.2.2.2.1 H) (h3 : stV G B vfs X.2.1.1 H) (h4 : stE G B ers X.2.1.2.2.2.1 H) (h5 : ∀ j, j < X.2.2.2.2.1 → csR G B (hc ((j + r) % 4)) (X.2.2.2.1 j) H) : tvI G B t5 n0 nv sn sv hi ha s0 v0 s1 v1 s2 v2 s3 v3 tx tc tr tw tn X H := ⟨vf, er, vfs, ers, hc, r, tfv, tfn, tfl, hP, ⟨h1, h2⟩, ⟨h3, h4⟩, h5⟩
theorem tvI.moved {G : xG} {B : List Nat} {t5 n0 nv sn sv hi ha s0 v0 s1 v1 s2 v2 s3 v3 tx tc tr tw tn : Nat} {X : Xs} {H H1 : Heap} (h : tvI G B t5 n0 nv sn sv hi ha s0 v0 s1 v1 s2 v2 s3 v3 tx tc tr tw tn X H) (hf : ∀ q, q < H.size → (q ∈ [t5, n0, nv, sn, sv, hi, ha, s0, v0, s1, v1, s2, v2, s3, v3, tx, tc, tr, tw, tn] ∨ q ∉ B) → H1[q]? = H[q]?) : tvI G B t5 n0 nv sn sv hi ha s0 v0 s1 v1 s2 v2 s3 v3 tx tc tr tw tn X H1 := by
  obtain ⟨vf, er, vfs, ers, hc, r, tfv, tfn, tfl, hP, ⟨h1, h2⟩, ⟨h3, h4⟩, h5⟩ := h
  have hfr : xFrm B H H1 := fun q h1 h2 => hf q h2 (Or.inr h1)
  refine ⟨vf, er, vfs, ers, hc, r, tfv, tfn, tfl, hP.kept (fun k q hk => hf q.1 (hP k q hk).lt (Or.inl ?_)), ⟨h1.kept hfr, h2.kept hfr⟩, ⟨h3.kept hfr, h4.kept hfr⟩, fun j hj => (h5 j hj).kept hfr⟩
  exact List.mem_map.mpr ⟨q, List.mem_of_getElem? hk, rfl⟩
def rmbH (ah : Nat → As) (many : Nat) (a : As) : Nat → As := if many < 4 then upC ah many a else fun j => if j = 3 then a else ah (j + 1)
def rmbM (many : Nat) : Nat := if many < 4 then many + 1 else 4
theorem rem_ex {many : Nat} (r : Nat) (h : many ≤ 4) : ∃ m1 r1 K, ((many < 4 ∧ m1 = many ∧ r1 = r) ∨ (many = 4 ∧ m1 = 3 ∧ r1 = (r + 1) % 4)) ∧ K = (m1 + r1) % 4 := by
  by_cases h4 : many < 4
  · exact ⟨many, r, _, Or.inl ⟨h4, rfl, rfl⟩, rfl⟩
  · exact ⟨3, (r + 1) % 4, _, Or.inr ⟨by omega, rfl, rfl⟩, rfl⟩
theorem rem_M {many m1 r1 r : Nat} (h : (many < 4 ∧ m1 = many ∧ r1 = r) ∨ (many = 4 ∧ m1 = 3 ∧ r1 = (r + 1) % 4)) : m1 + 1 = rmbM many := by
  unfold rmbM
  rcases h with h | h
  · rw [if_pos h.1]; omega
  · rw [if_neg (by omega)]; omega
theorem rem_ok {G : xG} {B : List Nat} {hc : Nat → Cs} {ah : Nat → As} {many m1 r1 r K : Nat} {cc : Cs} {a : As} {H : Heap} (hcs : (many < 4 ∧ m1 = many ∧ r1 = r) ∨ (many = 4 ∧ m1 = 3 ∧ r1 = (r + 1) % 4)) (hK : K = (m1 + r1) % 4) (hh : ∀ j, j < many → csR G B (hc ((j + r) % 4)) (ah j) H) (ha : csR G B cc a H) : ∀ j, j < rmbM many → csR G B (upC hc K cc ((j + r1) % 4)) (rmbH ah many a j) H := by
  intro j hj
  unfold rmbM at hj
  unfold rmbH
  rcases hcs with ⟨h1, h2, h3⟩ | ⟨h1, h2, h3⟩
  · rw [if_pos h1] at hj ⊢
    unfold upC
    by_cases hjm : j = many
    · rw [if_pos (by rw [hK, h2, h3, hjm]), if_pos hjm]; exact ha
    · rw [if_neg (by omega), if_neg hjm, h3]; exact hh j (by omega)
  · rw [if_neg (by omega)] at hj
    rw [if_neg (by omega)]
    unfold upC
    by_cases hj3 : j = 3
    · rw [if_pos (by omega)]
      show csR G B cc (if j = 3 then a else _) H
      rw [if_pos hj3]; exact ha
    · rw [if_neg (by omega)]
      show csR G B _ (if j = 3 then a else _) H
      rw [if_neg hj3, show (j + r1) % 4 = (j + 1 + r) % 4 by omega]
      exact hh (j + 1) (by omega)
theorem tv_frm {A : Nat → Prop} {B : List Nat} {H0 H : Heap} {locs : List Loc} (hS : va_S A H0 H locs) (hA : ∀ q, A q → q ∈ B ∨ H0.size ≤ q) : xFrm B H0 H := fun q h1 h2 => hS.2.1 q h2 (fun z => (hA q z).elim h1 (fun y => absurd h2 (Nat.not_lt.mpr y)))
theorem tv_ro {A : Nat → Prop} {B : List Nat} {D : va_G} {cl : List vw_C} {ws : va_W} {H0 : Heap} (hA : ∀ q, A q → q ∈ B ∨ H0.size ≤ q) (hP : va_P D cl ws H0) (hn : ∀ q ∈ ws.map (fun x => x.1), q ∉ B) : ∀ q ∈ ws.map (fun x => x.1), ¬ A q := fun q hq z => (hA q z).elim (hn q hq) (fun y => absurd (x_lt hP hq) (Nat.not_lt.mpr y))
theorem tv_b3 {B : List Nat} {a va na : Nat} (h : a ∉ B ∧ va ∉ B ∧ na ∉ B) : ∀ q ∈ [a, va, na], q ∉ B := fun q hq z => by
  simp only [List.mem_cons, List.not_mem_nil, or_false] at hq
  rcases hq with e | e | e
  · exact h.1 (e ▸ z)
  · exact h.2.1 (e ▸ z)
  · exact h.2.2 (e ▸ z)
theorem stV.vpl {G : xG} {B L : List Nat} {vf : Nat → Option Nat} {vs : Nat → Option Vw} {H : Heap} (h : stV G B vf vs H) (hL : ∀ q ∈ L, q ∈ B) : vpl G L vf H := fun i hi q hq => by
  rcases h i hi with ⟨h1, _⟩ | ⟨q2, v, h1, _, ra, h3, h4, _⟩
  · rw [h1] at hq; cases hq
  · rw [h1] at hq
    obtain rfl := Option.some.inj hq
    exact ⟨fun z => h3 (hL _ z), _, h4⟩
theorem stV.add {G : xG} {B : List Nat} {vf : Nat → Option Nat} {vs : Nat → Option Vw} {H : Heap} (h : stV G B vf vs H) {k q : Nat} {v : Vw} (hv : isView G B q v H) : stV G B (va_up vf k (some q)) (va_up vs k (some v)) H := fun i hi => by
  by_cases hk : i = k
  · subst hk; rw [va_up_self, va_up_self]; exact Or.inr ⟨q, v, rfl, rfl, hv⟩
  · rw [va_up_ne _ _ hk, va_up_ne _ _ hk]; exact h i hi
theorem stV.del {G : xG} {B : List Nat} {vf : Nat → Option Nat} {vs : Nat → Option Vw} {H : Heap} (h : stV G B vf vs H) {k : Nat} : stV G B (va_up vf k none) (va_up vs k none) H := fun i hi => by
  by_cases hk : i = k
  · subst hk; rw [va_up_self, va_up_self]; exact Or.inl ⟨rfl, rfl⟩
  · rw [va_up_ne _ _ hk, va_up_ne _ _ hk]; exact h i hi
theorem stE.at {G : xG} {B : List Nat} {er : Option Nat} {ed : Option Rw} {H : Heap} (h : stE G B er ed H) : (er = none ∧ ed = none) ∨ ∃ q r, er = some q ∧ ed = some r ∧ isRow G B q r H := h
theorem sumN_congr {f g : Nat → Nat} : ∀ {n : Nat}, (∀ i, i < n → f i = g i) → sumN f n = sumN g n
  | 0, _ => rfl
  | n + 1, h => by
    show sumN f n + f n = sumN g n + g n
    rw [sumN_congr (fun i hi => h i (Nat.lt_succ_of_lt hi)), h n (Nat.lt_succ_self n)]
theorem bN_iff {P Q : Prop} (h : P ↔ Q) : bN P = bN Q := by
  by_cases hp : P
  · rw [bN_t hp, bN_t (h.mp hp)]
  · rw [bN_f hp, bN_f (fun z => hp (h.mpr z))]
noncomputable def vLeft (vs : Nat → Option Vw) : Nat := sumN (fun z => bN (¬ vs z = none)) 24
theorem stV.left {G : xG} {B : List Nat} {vf : Nat → Option Nat} {vs : Nat → Option Vw} {H : Heap} (h : stV G B vf vs H) : sumN (fun z => bN (¬ vf z = none)) 24 = vLeft vs := sumN_congr (fun i hi => bN_iff (by
  rcases h i hi with ⟨h1, h2⟩ | ⟨q, v, h1, h2, _⟩
  · simp [h1, h2]
  · simp [h1, h2]))
def okX (X : Xs) : Prop := X.1.2.1 ≤ 24 ∧ X.2.2.2.2.1 ≤ 4 ∧ X.2.2.2.2.2.2 ≤ 60 ∧ (∀ i, X.2.2.2.2.2.1 i < 65536) ∧ X.2.2.1 < 2 ∧ (∀ i v, i < 24 → X.1.1 i = some v → okV v) ∧ ∀ r, X.1.2.2.2.1 = some r → okR r
def cvN (X : Xs) (a : As) : Xs := (a, X.2.1, X.2.2.1, rmbH X.2.2.2.1 X.2.2.2.2.1 X.1, rmbM X.2.2.2.2.1, X.2.2.2.2.2)
def cvAdd (X : Xs) (w : Vw) (md : Nat) (ed : Option Rw) (fo : Int32) : Xs := cvN X (va_up X.1.1 X.1.2.1 (some w), X.1.2.1 + 1, md, ed, fo)
abbrev cNO : Int32 := nI 2147483647

def cvGet (X : Xs) (a b : Int32) : Int32 := oel (vwA X.1.1 a) (-1) (fun w => if ¬ (0 ≤ b ∧ b < nI w.2.2.2) then -1 else vaI w.1.1 w.1.2.1 (w.2.2.1 + b.toNatClampNeg))
def cvBlo (X : Xs) (a b d : Int32) : Int32 := oel (vwA X.1.1 a) (-1) (fun w => if b < 0 ∨ d < 0 then -2 else nuI w.1.2.2.1 b d)
noncomputable def cvSha (X : Xs) (a b : Int32) : Int32 := oel (vwA X.1.1 a) (-1) (fun w => oel (vwA X.1.1 b) (-1) (fun u => nI (sumN (fun z => bN (0 ≤ w.1.2.2.1 z ∧ u.1.2.2.1 z = w.1.2.2.1 z)) 101)))
def vwF (w : Vw) : Nat → Int32 := fun z => vaI w.1.1 w.1.2.1 (w.2.2.1 + z)
def cvDif (X : Xs) (a b : Int32) : Int32 := oel (vwA X.1.1 a) (-1) (fun w => oel (vwA X.1.1 b) (-1) (fun u => dfI (vwF w) (vwF u) w.2.2.2 u.2.2.2))
def cvFnd (X : Xs) (a x f : Int32) : Int32 := oel (vwA X.1.1 a) (-1) (fun w => if f < 0 then -2 else fnI (vwF w) w.2.2.2 x f.toNatClampNeg)
noncomputable def cvVecK (w : Vw) (k : Int32) : Int32 :=
  if k = 0 then nI w.2.2.2 else if k = 1 then bI (w.2.1 ≠ 0) else if k = 2 then nI w.2.2.1 else if k = 3 then nI w.1.2.2.2 else if k = 4 then nI (rLv w.1.2.2.2)
  else if k = 5 then nI (sumN (fun z => bN (nI 0 ≤ w.1.2.2.1 z)) 101) else if k = 6 then cRI (rLv w.1.2.2.2) else if k = 7 then nI (w.1.2.2.2 - rLv w.1.2.2.2 * 4)
  else if k = 8 then sumI (vwF w) w.2.2.2 else if k = 9 then mxJ (vwF w) w.2.2.2 else -2
theorem cvVecK_d {w : Vw} {k : Int32} (h : ¬ (0 ≤ k.toInt ∧ k.toInt ≤ 9)) : cvVecK w k = -2 := by
  unfold cvVecK
  repeat' rw [if_neg (fun q => h (by rw [q]; decide))]
noncomputable def cvVec (X : Xs) (a k : Int32) : Int32 := oel (vwA X.1.1 a) (-1) (fun w => cvVecK w k)

theorem hw_X5_get_f10 : Cond.fieldLink RX5 10 "TailVectors" "now" "LTailVectors$State;" ∈ wsX5_get := by decide +kernel
theorem hi_X5_get_RX5 : ∀ w ∈ u_ws RX5 TX5 6, w ∈ wsX5_get := by decide +kernel
set_option maxHeartbeats 4000000 in
set_option maxRecDepth 100000 in
theorem c_X5_get (l : Launch) (G : xG) (B : List Nat) (t5 : Nat) (n0 : Nat) (nv : Nat) (sn : Nat) (sv : Nat) (hi : Nat) (ha : Nat) (s0 : Nat) (v0 : Nat) (s1 : Nat) (v1 : Nat) (s2 : Nat) (v2 : Nat) (s3 : Nat) (v3 : Nat) (tx : Nat) (tc : Nat) (tr : Nat) (tw : Nat) (tn : Nat) (X : Xs) (a1 : Int32) (a2 : Int32) (hok : okX X) : Met l yX5_get wsX5_get ({ frames := 1, cells := 0, slots := 0, locals := 22 } : Room) (xPc G [.ref t5, .int a1, .int a2] (fun H => tvI G B t5 n0 nv sn sv hi ha s0 v0 s1 v1 s2 v2 s3 v3 tx tc tr tw tn X H)) (k2_QcV (.int (cvGet X a1 a2))) 0 0 (fun _ => False) := by
  refine xMet (cc := cX5_get) (nL := 4) (ret := (some (.int))) (by decide) rfl (Nat.le_of_ble_eq_true rfl) ?_
  intro p e s m below meth c S hr hlk_ hnm hE hP ls hl
  obtain ⟨hx, hb, hml, hown, hts⟩ := id S
  have hown : s.vm.findClass RX5 = some m.cls := hown
  have hK := hE.1
  have hS : va_S (fun _ : Nat => False) s.heap s.heap [] := va_S.rf
  have hA : ∀ q, (fun _ : Nat => False) q → xB0 G ≤ q := fun _ h => h.elim
  obtain ⟨vf, er, vfs, ers, hc, r, tfv, tfn, tfl, hP, ⟨hNV, hNE⟩, ⟨hSV, hSE⟩, hH⟩ := hP
  obtain ⟨hev24, hm4, htl, hch, hhs, hokv, hoke⟩ := id hok
  have hP : va_P G.1 vwCl [(t5, .inr (5, [.ref n0, .ref sn, .int (nI X.2.2.1), .ref hi, .ref tx, .ref tr])), (n0, .inr (2, [.ref nv, .int (nI X.1.2.1), .int (nI X.1.2.2.1), va_rf er, .int X.1.2.2.2.2])), (nv, .inl (xcV G, 24, .inr (.inr (.inr (.inr vf))))), (sn, .inr (2, [.ref sv, .int (nI X.2.1.2.1), .int (nI X.2.1.2.2.1), va_rf ers, .int X.2.1.2.2.2.2])), (sv, .inl (xcV G, 24, .inr (.inr (.inr (.inr vfs))))), (hi, .inr (0, [.ref ha, .int (nI X.2.2.2.2.1)])), (ha, .inl (xcS G, 4, .inr (.inr (.inr (.inr (hfF s0 s1 s2 s3 r)))))), (s0, .inr (2, [.ref v0, .int (nI ((hc 0).2.1)), .int (nI ((hc 0).2.2.1)), va_rf ((hc 0).2.2.2.1), .int ((hc 0).2.2.2.2)])), (v0, .inl (xcV G, 24, .inr (.inr (.inr (.inr ((hc 0).1)))))), (s1, .inr (2, [.ref v1, .int (nI ((hc 1).2.1)), .int (nI ((hc 1).2.2.1)), va_rf ((hc 1).2.2.2.1), .int ((hc 1).2.2.2.2)])), (v1, .inl (xcV G, 24, .inr (.inr (.inr (.inr ((hc 1).1)))))), (s2, .inr (2, [.ref v2, .int (nI ((hc 2).2.1)), .int (nI ((hc 2).2.2.1)), va_rf ((hc 2).2.2.2.1), .int ((hc 2).2.2.2.2)])), (v2, .inl (xcV G, 24, .inr (.inr (.inr (.inr ((hc 2).1)))))), (s3, .inr (2, [.ref v3, .int (nI ((hc 3).2.1)), .int (nI ((hc 3).2.2.1)), va_rf ((hc 3).2.2.2.1), .int ((hc 3).2.2.2.2)])), (v3, .inl (xcV G, 24, .inr (.inr (.inr (.inr ((hc 3).1)))))), (tx, .inr (3, [.ref tc, .int (nI X.2.2.2.2.2.2)])), (tc, .inl (xcC G, 60, .inl (nf X.2.2.2.2.2.1))), (tr, .inr (1, [.ref tw, .ref tn, .int (nI tfl)])), (tw, .inl (xcI G, 300, .inl tfv)), (tn, .inl (xcI G, 101, .inl tfn))] s.heap := hP
  have hl : lv_has ls 4 [(0, .ref t5), (1, .int a1), (2, .int a2)] := hl
  refine lv_aload_n hx hb dX5_get_0 rfl (lv_at hl 0 rfl) ?_
  refine va_get (D := G.1) (ci := 5) (v := .ref n0) (C := RX5) (T := TX5) (N := 6) hx hb hts hi_X5_get_RX5 hown hK hP 0 rfl rfl 0 (by decide) (hts _ hw_X5_get_f10) (fun _ h9 => h9) rfl dX5_get_1 ?_
  refine lv_iload_n hx hb dX5_get_4 rfl (lv_at hl 1 rfl) ?_
  refine xrd (xrunV (As := [.int a1]) (rest := []) S (c_X2_viewOf l G n0 nv vf X.1.2.1 X.1.2.2.1 er X.1.2.2.2.2 a1 ) (cwV 1 hts gX5_get_X2_viewOf rfl rfl rfl (by decide +kernel) ⟨Nat.le_of_ble_eq_true rfl, Nat.le_of_ble_eq_true rfl⟩) hE hS hA 1 2 hP rfl rfl rfl (hP.sub [1, 2] rfl) rfl rfl hl.1 (Nat.le_of_ble_eq_true rfl) dX5_get_5 ⟨Nat.le_of_ble_eq_true rfl, Nat.le_of_ble_eq_true rfl⟩) ?_
  rcases ov : vwQ vf a1 with _ | q
  · refine W.eq (g2 := F0 m 8 ls [.null]) rfl ?_
    have hv2 : vwA X.1.1 a1 = none := (hNV.at a1).elim (fun z => z.2) (fun ⟨_, _, z, _⟩ => by rw [ov] at z; cases z)
    refine lv_astore_nN (lv' := [(3, .null), (0, .ref t5), (1, .int a1), (2, .int a2)]) hx hb dX5_get_8 rfl hl (by decide) rfl (fun ls hl => ?_)
    refine lv_aload_nN hx hb dX5_get_9 rfl (lv_at hl 0 rfl) ?_
    refine lv_ifnullN (tgt := 21) hx hb dX5_get_10 (by decide) ?_
    refine lv_iconst (v := (-1)) hx hb dX5_get_21 rfl ?_
    exact xret_i hx hb hr hlk_ dX5_get_22 (by rw [cvGet, hv2, oel_n])
  · refine W.eq (g2 := F0 m 8 ls [.ref q]) rfl ?_
    obtain ⟨q2, v, hv1, hv2, ra, hqB, hV, va, na, hb3, hR⟩ := (hNV.at a1).resolve_left (fun z => by rw [z.1] at ov; cases ov)
    obtain rfl : q2 = q := Option.some.inj (hv1.symm.trans ov)
    have hokw : okV v := by obtain ⟨k9, hk9_, _, h9⟩ := vwA_lt hv2; exact hokv k9 v hk9_ h9
    obtain ⟨⟨hrl, hrc, hro⟩, hvw, hvb⟩ := hokw
    refine lv_astore_n (lv' := [(3, .ref q2), (0, .ref t5), (1, .int a1), (2, .int a2)]) hx hb dX5_get_8 rfl hl (by decide) rfl (fun ls hl => ?_)
    refine lv_aload_n hx hb dX5_get_9 rfl (lv_at hl 0 rfl) ?_
    refine lv_ifnull hx hb dX5_get_10 ?_
    refine lv_aload_n hx hb dX5_get_13 rfl (lv_at hl 0 rfl) ?_
    refine lv_iload_n hx hb dX5_get_14 rfl (lv_at hl 3 rfl) ?_
    refine xrd (xrunV (As := [.int a2]) (rest := []) S (c_X4_shows l G q2 ra v.2.1 v.2.2.1 v.2.2.2 a2 (by omega) (by omega)) (cwV 1 hts gX5_get_X4_shows rfl rfl rfl (by decide +kernel) ⟨Nat.le_of_ble_eq_true rfl, Nat.le_of_ble_eq_true rfl⟩) hE hS hA 0 4 hV rfl rfl rfl hV rfl rfl hl.1 (Nat.le_of_ble_eq_true rfl) dX5_get_15 ⟨Nat.le_of_ble_eq_true rfl, Nat.le_of_ble_eq_true rfl⟩) ?_
    refine b_if_ne (tgt := 23) hx hb dX5_get_18 (by decide) (fun c_18 => ?_) (fun c_18 => ?_)
    · have c_18b := c_18
      obtain ⟨k, hk9, rfl⟩ := nI_of (Int32.not_lt.mpr c_18.1)
      have hkm : k < v.2.2.2 := (nI_ltI hk9 (by omega)).mp c_18.2
      refine lv_aload_n hx hb dX5_get_23 rfl (lv_at hl 0 rfl) ?_
      refine lv_iload_n hx hb dX5_get_24 rfl (lv_at hl 3 rfl) ?_
      refine xrd (xrunV (As := [.int (nI k)]) (rest := []) S (c_X4_valueAt l G q2 ra v.2.1 v.2.2.1 v.2.2.2 va na v.1.1 v.1.2.1 v.1.2.2.1 v.1.2.2.2 k (by omega) (by omega) (by omega) (by omega)) (cwV 1 hts gX5_get_X4_valueAt rfl rfl rfl (by decide +kernel) ⟨Nat.le_of_ble_eq_true rfl, Nat.le_of_ble_eq_true rfl⟩) hE hS hA 0 4 hV rfl rfl rfl (va_P.app ((hV.sub [0] rfl)) (hR.sub [0, 1, 2] rfl)) rfl rfl hl.1 (Nat.le_of_ble_eq_true rfl) dX5_get_25 ⟨Nat.le_of_ble_eq_true rfl, Nat.le_of_ble_eq_true rfl⟩) ?_
      exact xret_i hx hb hr hlk_ dX5_get_28 (by rw [cvGet, hv2, oel_s, if_neg (fun z => z c_18b), nI_clamp hk9])
    · refine lv_iconst (v := (-1)) hx hb dX5_get_21 rfl ?_
      exact xret_i hx hb hr hlk_ dX5_get_22 (by rw [cvGet, hv2, oel_s, if_pos c_18])

theorem hw_X5_block_f10 : Cond.fieldLink RX5 10 "TailVectors" "now" "LTailVectors$State;" ∈ wsX5_block := by decide +kernel
theorem hi_X5_block_RX5 : ∀ w ∈ u_ws RX5 TX5 6, w ∈ wsX5_block := by decide +kernel
theorem hw_X5_block_f75 : Cond.fieldLink RX5 75 "TailVectors$View" "row" "LTailVectors$Row;" ∈ wsX5_block := by decide +kernel
theorem hi_X5_block_RX4 : ∀ w ∈ u_ws RX4 TX4 4, w ∈ wsX5_block := by decide +kernel
set_option maxHeartbeats 4000000 in
set_option maxRecDepth 100000 in
theorem c_X5_block (l : Launch) (G : xG) (B : List Nat) (t5 : Nat) (n0 : Nat) (nv : Nat) (sn : Nat) (sv : Nat) (hi : Nat) (ha : Nat) (s0 : Nat) (v0 : Nat) (s1 : Nat) (v1 : Nat) (s2 : Nat) (v2 : Nat) (s3 : Nat) (v3 : Nat) (tx : Nat) (tc : Nat) (tr : Nat) (tw : Nat) (tn : Nat) (X : Xs) (a1 : Int32) (a2 : Int32) (a3 : Int32) (hok : okX X) : Met l yX5_block wsX5_block ({ frames := 2, cells := 0, slots := 0, locals := 45 } : Room) (xPc G [.ref t5, .int a1, .int a2, .int a3] (fun H => tvI G B t5 n0 nv sn sv hi ha s0 v0 s1 v1 s2 v2 s3 v3 tx tc tr tw tn X H)) (k2_QcV (.int (cvBlo X a1 a2 a3))) 0 0 (fun _ => False) := by
  refine xMet (cc := cX5_block) (nL := 5) (ret := (some (.int))) (by decide) rfl (Nat.le_of_ble_eq_true rfl) ?_
  intro p e s m below meth c S hr hlk_ hnm hE hP ls hl
  obtain ⟨hx, hb, hml, hown, hts⟩ := id S
  have hown : s.vm.findClass RX5 = some m.cls := hown
  have hK := hE.1
  have hS : va_S (fun _ : Nat => False) s.heap s.heap [] := va_S.rf
  have hA : ∀ q, (fun _ : Nat => False) q → xB0 G ≤ q := fun _ h => h.elim
  obtain ⟨vf, er, vfs, ers, hc, r, tfv, tfn, tfl, hP, ⟨hNV, hNE⟩, ⟨hSV, hSE⟩, hH⟩ := hP
  obtain ⟨hev24, hm4, htl, hch, hhs, hokv, hoke⟩ := id hok
  have hP : va_P G.1 vwCl [(t5, .inr (5, [.ref n0, .ref sn, .int (nI X.2.2.1), .ref hi, .ref tx, .ref tr])), (n0, .inr (2, [.ref nv, .int (nI X.1.2.1), .int (nI X.1.2.2.1), va_rf er, .int X.1.2.2.2.2])), (nv, .inl (xcV G, 24, .inr (.inr (.inr (.inr vf))))), (sn, .inr (2, [.ref sv, .int (nI X.2.1.2.1), .int (nI X.2.1.2.2.1), va_rf ers, .int X.2.1.2.2.2.2])), (sv, .inl (xcV G, 24, .inr (.inr (.inr (.inr vfs))))), (hi, .inr (0, [.ref ha, .int (nI X.2.2.2.2.1)])), (ha, .inl (xcS G, 4, .inr (.inr (.inr (.inr (hfF s0 s1 s2 s3 r)))))), (s0, .inr (2, [.ref v0, .int (nI ((hc 0).2.1)), .int (nI ((hc 0).2.2.1)), va_rf ((hc 0).2.2.2.1), .int ((hc 0).2.2.2.2)])), (v0, .inl (xcV G, 24, .inr (.inr (.inr (.inr ((hc 0).1)))))), (s1, .inr (2, [.ref v1, .int (nI ((hc 1).2.1)), .int (nI ((hc 1).2.2.1)), va_rf ((hc 1).2.2.2.1), .int ((hc 1).2.2.2.2)])), (v1, .inl (xcV G, 24, .inr (.inr (.inr (.inr ((hc 1).1)))))), (s2, .inr (2, [.ref v2, .int (nI ((hc 2).2.1)), .int (nI ((hc 2).2.2.1)), va_rf ((hc 2).2.2.2.1), .int ((hc 2).2.2.2.2)])), (v2, .inl (xcV G, 24, .inr (.inr (.inr (.inr ((hc 2).1)))))), (s3, .inr (2, [.ref v3, .int (nI ((hc 3).2.1)), .int (nI ((hc 3).2.2.1)), va_rf ((hc 3).2.2.2.1), .int ((hc 3).2.2.2.2)])), (v3, .inl (xcV G, 24, .inr (.inr (.inr (.inr ((hc 3).1)))))), (tx, .inr (3, [.ref tc, .int (nI X.2.2.2.2.2.2)])), (tc, .inl (xcC G, 60, .inl (nf X.2.2.2.2.2.1))), (tr, .inr (1, [.ref tw, .ref tn, .int (nI tfl)])), (tw, .inl (xcI G, 300, .inl tfv)), (tn, .inl (xcI G, 101, .inl tfn))] s.heap := hP
  have hl : lv_has ls 5 [(0, .ref t5), (1, .int a1), (2, .int a2), (3, .int a3)] := hl
  refine lv_aload_n hx hb dX5_block_0 rfl (lv_at hl 0 rfl) ?_
  refine va_get (D := G.1) (ci := 5) (v := .ref n0) (C := RX5) (T := TX5) (N := 6) hx hb hts hi_X5_block_RX5 hown hK hP 0 rfl rfl 0 (by decide) (hts _ hw_X5_block_f10) (fun _ h9 => h9) rfl dX5_block_1 ?_
  refine lv_iload_n hx hb dX5_block_4 rfl (lv_at hl 1 rfl) ?_
  refine xrd (xrunV (As := [.int a1]) (rest := []) S (c_X2_viewOf l G n0 nv vf X.1.2.1 X.1.2.2.1 er X.1.2.2.2.2 a1 ) (cwV 1 hts gX5_block_X2_viewOf rfl rfl rfl (by decide +kernel) ⟨Nat.le_of_ble_eq_true rfl, Nat.le_of_ble_eq_true rfl⟩) hE hS hA 1 2 hP rfl rfl rfl (hP.sub [1, 2] rfl) rfl rfl hl.1 (Nat.le_of_ble_eq_true rfl) dX5_block_5 ⟨Nat.le_of_ble_eq_true rfl, Nat.le_of_ble_eq_true rfl⟩) ?_
  rcases ov : vwQ vf a1 with _ | q
  · refine W.eq (g2 := F0 m 8 ls [.null]) rfl ?_
    have hv2 : vwA X.1.1 a1 = none := (hNV.at a1).elim (fun z => z.2) (fun ⟨_, _, z, _⟩ => by rw [ov] at z; cases z)
    refine lv_astoreN (lv' := [(4, .null), (0, .ref t5), (1, .int a1), (2, .int a2), (3, .int a3)]) hx hb dX5_block_8 hl (by decide) rfl (fun ls hl => ?_)
    refine lv_aloadN hx hb dX5_block_10 (lv_at hl 0 rfl) ?_
    refine lv_ifnonnullN hx hb dX5_block_12 ?_
    refine lv_iconst (v := (-1)) hx hb dX5_block_15 rfl ?_
    exact xret_i hx hb hr hlk_ dX5_block_16 (by rw [cvBlo, hv2, oel_n])
  · refine W.eq (g2 := F0 m 8 ls [.ref q]) rfl ?_
    obtain ⟨q2, v, hv1, hv2, ra, hqB, hV, va, na, hb3, hR⟩ := (hNV.at a1).resolve_left (fun z => by rw [z.1] at ov; cases ov)
    obtain rfl : q2 = q := Option.some.inj (hv1.symm.trans ov)
    have hokw : okV v := by obtain ⟨k9, hk9_, _, h9⟩ := vwA_lt hv2; exact hokv k9 v hk9_ h9
    obtain ⟨⟨hrl, hrc, hro⟩, hvw, hvb⟩ := hokw
    refine lv_astore (lv' := [(4, .ref q2), (0, .ref t5), (1, .int a1), (2, .int a2), (3, .int a3)]) hx hb dX5_block_8 hl (by decide) rfl (fun ls hl => ?_)
    refine lv_aload hx hb dX5_block_10 (lv_at hl 0 rfl) ?_
    refine lv_ifnonnull (tgt := 17) hx hb dX5_block_12 (by decide) ?_
    refine lv_iload_n hx hb dX5_block_17 rfl (lv_at hl 3 rfl) ?_
    refine lv_if_lt (tgt := 25) hx hb dX5_block_18 (by decide) (fun c_18 => ?_) (fun c_18 => ?_)
    · refine lv_bipush (v := (-2)) hx hb dX5_block_25 (by decide) ?_
      exact xret_i hx hb hr hlk_ dX5_block_27 (by rw [cvBlo, hv2, oel_s, if_pos (Or.inl c_18)])
    · refine lv_iload_n hx hb dX5_block_21 rfl (lv_at hl 4 rfl) ?_
      refine lv_if_ge (tgt := 28) hx hb dX5_block_22 (by decide) (fun c_22 => ?_) (fun c_22 => ?_)
      · refine lv_aload hx hb dX5_block_28 (lv_at hl 0 rfl) ?_
        refine va_get (D := G.1) (ci := 4) (v := .ref ra) (C := RX4) (T := TX4) (N := 4) hx hb hts hi_X5_block_RX4 hown hK hV 0 rfl rfl 0 (by decide) (hts _ hw_X5_block_f75) (fun _ h9 => h9) rfl dX5_block_30 ?_
        refine lv_iload_n hx hb dX5_block_33 rfl (lv_at hl 3 rfl) ?_
        refine lv_iload_n hx hb dX5_block_34 rfl (lv_at hl 4 rfl) ?_
        refine xrd (xrunV (As := [.int a2, .int a3]) (rest := []) S (c_X1_numberAt l G ra va na v.1.1 v.1.2.1 v.1.2.2.1 v.1.2.2.2 a2 a3 ) (cwV 2 hts gX5_block_X1_numberAt rfl rfl rfl (by decide +kernel) ⟨Nat.le_of_ble_eq_true rfl, Nat.le_of_ble_eq_true rfl⟩) hE hS hA 0 1 hR rfl rfl rfl hR rfl rfl hl.1 (Nat.le_of_ble_eq_true rfl) dX5_block_35 ⟨Nat.le_of_ble_eq_true rfl, Nat.le_of_ble_eq_true rfl⟩) ?_
        exact xret_i hx hb hr hlk_ dX5_block_38 (by rw [cvBlo, hv2, oel_s, if_neg (fun z => z.elim c_18 (fun y => le_ge32 y c_22))])
      · refine lv_bipush (v := (-2)) hx hb dX5_block_25 (by decide) ?_
        exact xret_i hx hb hr hlk_ dX5_block_27 (by rw [cvBlo, hv2, oel_s, if_pos (Or.inr (Int32.not_le.mp c_22))])

theorem hw_X5_shared_f10 : Cond.fieldLink RX5 10 "TailVectors" "now" "LTailVectors$State;" ∈ wsX5_shared := by decide +kernel
theorem hi_X5_shared_RX5 : ∀ w ∈ u_ws RX5 TX5 6, w ∈ wsX5_shared := by decide +kernel
theorem hw_X5_shared_f75 : Cond.fieldLink RX5 75 "TailVectors$View" "row" "LTailVectors$Row;" ∈ wsX5_shared := by decide +kernel
theorem hi_X5_shared_RX4 : ∀ w ∈ u_ws RX4 TX4 4, w ∈ wsX5_shared := by decide +kernel
set_option maxHeartbeats 4000000 in
set_option maxRecDepth 100000 in
theorem c_X5_shared (l : Launch) (G : xG) (B : List Nat) (t5 : Nat) (n0 : Nat) (nv : Nat) (sn : Nat) (sv : Nat) (hi : Nat) (ha : Nat) (s0 : Nat) (v0 : Nat) (s1 : Nat) (v1 : Nat) (s2 : Nat) (v2 : Nat) (s3 : Nat) (v3 : Nat) (tx : Nat) (tc : Nat) (tr : Nat) (tw : Nat) (tn : Nat) (X : Xs) (a1 : Int32) (a2 : Int32) (hok : okX X) : Met l yX5_shared wsX5_shared ({ frames := 2, cells := 0, slots := 0, locals := 45 } : Room) (xPc G [.ref t5, .int a1, .int a2] (fun H => tvI G B t5 n0 nv sn sv hi ha s0 v0 s1 v1 s2 v2 s3 v3 tx tc tr tw tn X H)) (k2_QcV (.int (cvSha X a1 a2))) 0 0 (fun _ => False) := by
  refine xMet (cc := cX5_shared) (nL := 5) (ret := (some (.int))) (by decide) rfl (Nat.le_of_ble_eq_true rfl) ?_
  intro p e s m below meth c S hr hlk_ hnm hE hP ls hl
  obtain ⟨hx, hb, hml, hown, hts⟩ := id S
  have hown : s.vm.findClass RX5 = some m.cls := hown
  have hK := hE.1
  have hS : va_S (fun _ : Nat => False) s.heap s.heap [] := va_S.rf
  have hA : ∀ q, (fun _ : Nat => False) q → xB0 G ≤ q := fun _ h => h.elim
  obtain ⟨vf, er, vfs, ers, hc, r, tfv, tfn, tfl, hP, ⟨hNV, hNE⟩, ⟨hSV, hSE⟩, hH⟩ := hP
  obtain ⟨hev24, hm4, htl, hch, hhs, hokv, hoke⟩ := id hok
  have hP : va_P G.1 vwCl [(t5, .inr (5, [.ref n0, .ref sn, .int (nI X.2.2.1), .ref hi, .ref tx, .ref tr])), (n0, .inr (2, [.ref nv, .int (nI X.1.2.1), .int (nI X.1.2.2.1), va_rf er, .int X.1.2.2.2.2])), (nv, .inl (xcV G, 24, .inr (.inr (.inr (.inr vf))))), (sn, .inr (2, [.ref sv, .int (nI X.2.1.2.1), .int (nI X.2.1.2.2.1), va_rf ers, .int X.2.1.2.2.2.2])), (sv, .inl (xcV G, 24, .inr (.inr (.inr (.inr vfs))))), (hi, .inr (0, [.ref ha, .int (nI X.2.2.2.2.1)])), (ha, .inl (xcS G, 4, .inr (.inr (.inr (.inr (hfF s0 s1 s2 s3 r)))))), (s0, .inr (2, [.ref v0, .int (nI ((hc 0).2.1)), .int (nI ((hc 0).2.2.1)), va_rf ((hc 0).2.2.2.1), .int ((hc 0).2.2.2.2)])), (v0, .inl (xcV G, 24, .inr (.inr (.inr (.inr ((hc 0).1)))))), (s1, .inr (2, [.ref v1, .int (nI ((hc 1).2.1)), .int (nI ((hc 1).2.2.1)), va_rf ((hc 1).2.2.2.1), .int ((hc 1).2.2.2.2)])), (v1, .inl (xcV G, 24, .inr (.inr (.inr (.inr ((hc 1).1)))))), (s2, .inr (2, [.ref v2, .int (nI ((hc 2).2.1)), .int (nI ((hc 2).2.2.1)), va_rf ((hc 2).2.2.2.1), .int ((hc 2).2.2.2.2)])), (v2, .inl (xcV G, 24, .inr (.inr (.inr (.inr ((hc 2).1)))))), (s3, .inr (2, [.ref v3, .int (nI ((hc 3).2.1)), .int (nI ((hc 3).2.2.1)), va_rf ((hc 3).2.2.2.1), .int ((hc 3).2.2.2.2)])), (v3, .inl (xcV G, 24, .inr (.inr (.inr (.inr ((hc 3).1)))))), (tx, .inr (3, [.ref tc, .int (nI X.2.2.2.2.2.2)])), (tc, .inl (xcC G, 60, .inl (nf X.2.2.2.2.2.1))), (tr, .inr (1, [.ref tw, .ref tn, .int (nI tfl)])), (tw, .inl (xcI G, 300, .inl tfv)), (tn, .inl (xcI G, 101, .inl tfn))] s.heap := hP
  have hl : lv_has ls 5 [(0, .ref t5), (1, .int a1), (2, .int a2)] := hl
  refine lv_aload_n hx hb dX5_shared_0 rfl (lv_at hl 0 rfl) ?_
  refine va_get (D := G.1) (ci := 5) (v := .ref n0) (C := RX5) (T := TX5) (N := 6) hx hb hts hi_X5_shared_RX5 hown hK hP 0 rfl rfl 0 (by decide) (hts _ hw_X5_shared_f10) (fun _ h9 => h9) rfl dX5_shared_1 ?_
  refine lv_iload_n hx hb dX5_shared_4 rfl (lv_at hl 1 rfl) ?_
  refine xrd (xrunV (As := [.int a1]) (rest := []) S (c_X2_viewOf l G n0 nv vf X.1.2.1 X.1.2.2.1 er X.1.2.2.2.2 a1 ) (cwV 1 hts gX5_shared_X2_viewOf rfl rfl rfl (by decide +kernel) ⟨Nat.le_of_ble_eq_true rfl, Nat.le_of_ble_eq_true rfl⟩) hE hS hA 1 2 hP rfl rfl rfl (hP.sub [1, 2] rfl) rfl rfl hl.1 (Nat.le_of_ble_eq_true rfl) dX5_shared_5 ⟨Nat.le_of_ble_eq_true rfl, Nat.le_of_ble_eq_true rfl⟩) ?_
  rcases ov : vwQ vf a1 with _ | q
  · refine W.eq (g2 := F0 m 8 ls [.null]) rfl ?_
    have hv2 : vwA X.1.1 a1 = none := (hNV.at a1).elim (fun z => z.2) (fun ⟨_, _, z, _⟩ => by rw [ov] at z; cases z)
    refine lv_astore_nN (lv' := [(3, .null), (0, .ref t5), (1, .int a1), (2, .int a2)]) hx hb dX5_shared_8 rfl hl (by decide) rfl (fun ls hl => ?_)
    refine lv_aload_n hx hb dX5_shared_9 rfl (lv_at hl 1 rfl) ?_
    refine va_get (D := G.1) (ci := 5) (v := .ref n0) (C := RX5) (T := TX5) (N := 6) hx hb hts hi_X5_shared_RX5 hown hK hP 0 rfl rfl 0 (by decide) (hts _ hw_X5_shared_f10) (fun _ h9 => h9) rfl dX5_shared_10 ?_
    refine lv_iload_n hx hb dX5_shared_13 rfl (lv_at hl 3 rfl) ?_
    refine xrd (xrunV (As := [.int a2]) (rest := []) S (c_X2_viewOf l G n0 nv vf X.1.2.1 X.1.2.2.1 er X.1.2.2.2.2 a2 ) (cwV 1 hts gX5_shared_X2_viewOf rfl rfl rfl (by decide +kernel) ⟨Nat.le_of_ble_eq_true rfl, Nat.le_of_ble_eq_true rfl⟩) hE hS hA 1 2 hP rfl rfl rfl (hP.sub [1, 2] rfl) rfl rfl hl.1 (Nat.le_of_ble_eq_true rfl) dX5_shared_14 ⟨Nat.le_of_ble_eq_true rfl, Nat.le_of_ble_eq_true rfl⟩) ?_
    rcases ovu : vwQ vf a2 with _ | qu
    · refine W.eq (g2 := F0 m 17 ls [.null]) rfl ?_
      have hv2u : vwA X.1.1 a2 = none := (hNV.at a2).elim (fun z => z.2) (fun ⟨_, _, z, _⟩ => by rw [ovu] at z; cases z)
      refine lv_astoreN (lv' := [(4, .null), (3, .null), (0, .ref t5), (1, .int a1), (2, .int a2)]) hx hb dX5_shared_17 hl (by decide) rfl (fun ls hl => ?_)
      refine lv_aload_nN hx hb dX5_shared_19 rfl (lv_at hl 1 rfl) ?_
      refine lv_ifnullN (tgt := 28) hx hb dX5_shared_20 (by decide) ?_
      refine lv_iconst (v := (-1)) hx hb dX5_shared_28 rfl ?_
      exact xret_i hx hb hr hlk_ dX5_shared_29 (by rw [cvSha, hv2, oel_n])
    · refine W.eq (g2 := F0 m 17 ls [.ref qu]) rfl ?_
      obtain ⟨q2u, vu, hv1u, hv2u, rau, hqBu, hVu, vau, nau, hb3u, hRu⟩ := (hNV.at a2).resolve_left (fun z => by rw [z.1] at ovu; cases ovu)
      obtain rfl : q2u = qu := Option.some.inj (hv1u.symm.trans ovu)
      have hokwu : okV vu := by obtain ⟨k9, hk9_, _, h9⟩ := vwA_lt hv2u; exact hokv k9 vu hk9_ h9
      obtain ⟨⟨hrlu, hrcu, hrou⟩, hvwu, hvbu⟩ := hokwu
      refine lv_astore (lv' := [(4, .ref q2u), (3, .null), (0, .ref t5), (1, .int a1), (2, .int a2)]) hx hb dX5_shared_17 hl (by decide) rfl (fun ls hl => ?_)
      refine lv_aload_nN hx hb dX5_shared_19 rfl (lv_at hl 1 rfl) ?_
      refine lv_ifnullN (tgt := 28) hx hb dX5_shared_20 (by decide) ?_
      refine lv_iconst (v := (-1)) hx hb dX5_shared_28 rfl ?_
      exact xret_i hx hb hr hlk_ dX5_shared_29 (by rw [cvSha, hv2, oel_n])
  · refine W.eq (g2 := F0 m 8 ls [.ref q]) rfl ?_
    obtain ⟨q2, v, hv1, hv2, ra, hqB, hV, va, na, hb3, hR⟩ := (hNV.at a1).resolve_left (fun z => by rw [z.1] at ov; cases ov)
    obtain rfl : q2 = q := Option.some.inj (hv1.symm.trans ov)
    have hokw : okV v := by obtain ⟨k9, hk9_, _, h9⟩ := vwA_lt hv2; exact hokv k9 v hk9_ h9
    obtain ⟨⟨hrl, hrc, hro⟩, hvw, hvb⟩ := hokw
    refine lv_astore_n (lv' := [(3, .ref q2), (0, .ref t5), (1, .int a1), (2, .int a2)]) hx hb dX5_shared_8 rfl hl (by decide) rfl (fun ls hl => ?_)
    refine lv_aload_n hx hb dX5_shared_9 rfl (lv_at hl 1 rfl) ?_
    refine va_get (D := G.1) (ci := 5) (v := .ref n0) (C := RX5) (T := TX5) (N := 6) hx hb hts hi_X5_shared_RX5 hown hK hP 0 rfl rfl 0 (by decide) (hts _ hw_X5_shared_f10) (fun _ h9 => h9) rfl dX5_shared_10 ?_
    refine lv_iload_n hx hb dX5_shared_13 rfl (lv_at hl 3 rfl) ?_
    refine xrd (xrunV (As := [.int a2]) (rest := []) S (c_X2_viewOf l G n0 nv vf X.1.2.1 X.1.2.2.1 er X.1.2.2.2.2 a2 ) (cwV 1 hts gX5_shared_X2_viewOf rfl rfl rfl (by decide +kernel) ⟨Nat.le_of_ble_eq_true rfl, Nat.le_of_ble_eq_true rfl⟩) hE hS hA 1 2 hP rfl rfl rfl (hP.sub [1, 2] rfl) rfl rfl hl.1 (Nat.le_of_ble_eq_true rfl) dX5_shared_14 ⟨Nat.le_of_ble_eq_true rfl, Nat.le_of_ble_eq_true rfl⟩) ?_
    rcases ovu : vwQ vf a2 with _ | qu
    · refine W.eq (g2 := F0 m 17 ls [.null]) rfl ?_
      have hv2u : vwA X.1.1 a2 = none := (hNV.at a2).elim (fun z => z.2) (fun ⟨_, _, z, _⟩ => by rw [ovu] at z; cases z)
      refine lv_astoreN (lv' := [(4, .null), (3, .ref q2), (0, .ref t5), (1, .int a1), (2, .int a2)]) hx hb dX5_shared_17 hl (by decide) rfl (fun ls hl => ?_)
      refine lv_aload_n hx hb dX5_shared_19 rfl (lv_at hl 1 rfl) ?_
      refine lv_ifnull hx hb dX5_shared_20 ?_
      refine lv_aloadN hx hb dX5_shared_23 (lv_at hl 0 rfl) ?_
      refine lv_ifnonnullN hx hb dX5_shared_25 ?_
      refine lv_iconst (v := (-1)) hx hb dX5_shared_28 rfl ?_
      exact xret_i hx hb hr hlk_ dX5_shared_29 (by rw [cvSha, hv2, oel_s, hv2u, oel_n])
    · refine W.eq (g2 := F0 m 17 ls [.ref qu]) rfl ?_
      obtain ⟨q2u, vu, hv1u, hv2u, rau, hqBu, hVu, vau, nau, hb3u, hRu⟩ := (hNV.at a2).resolve_left (fun z => by rw [z.1] at ovu; cases ovu)
      obtain rfl : q2u = qu := Option.some.inj (hv1u.symm.trans ovu)
      have hokwu : okV vu := by obtain ⟨k9, hk9_, _, h9⟩ := vwA_lt hv2u; exact hokv k9 vu hk9_ h9
      obtain ⟨⟨hrlu, hrcu, hrou⟩, hvwu, hvbu⟩ := hokwu
      refine lv_astore (lv' := [(4, .ref q2u), (3, .ref q2), (0, .ref t5), (1, .int a1), (2, .int a2)]) hx hb dX5_shared_17 hl (by decide) rfl (fun ls hl => ?_)
      refine lv_aload_n hx hb dX5_shared_19 rfl (lv_at hl 1 rfl) ?_
      refine lv_ifnull hx hb dX5_shared_20 ?_
      refine lv_aload hx hb dX5_shared_23 (lv_at hl 0 rfl) ?_
      refine lv_ifnonnull (tgt := 30) hx hb dX5_shared_25 (by decide) ?_
      refine lv_aload_n hx hb dX5_shared_30 rfl (lv_at hl 1 rfl) ?_
      refine va_get (D := G.1) (ci := 4) (v := .ref ra) (C := RX4) (T := TX4) (N := 4) hx hb hts hi_X5_shared_RX4 hown hK hV 0 rfl rfl 0 (by decide) (hts _ hw_X5_shared_f75) (fun _ h9 => h9) rfl dX5_shared_31 ?_
      refine lv_aload hx hb dX5_shared_34 (lv_at hl 0 rfl) ?_
      refine va_get (D := G.1) (ci := 4) (v := .ref rau) (C := RX4) (T := TX4) (N := 4) hx hb hts hi_X5_shared_RX4 hown hK hVu 0 rfl rfl 0 (by decide) (hts _ hw_X5_shared_f75) (fun _ h9 => h9) rfl dX5_shared_36 ?_
      refine xrd (xrunV (As := [.ref rau]) (rest := []) S (c_X1_sharedWith l G ra va na v.1.1 v.1.2.1 v.1.2.2.1 v.1.2.2.2 rau vau nau vu.1.1 vu.1.2.1 vu.1.2.2.1 vu.1.2.2.2 ) (cwV 1 hts gX5_shared_X1_sharedWith rfl rfl rfl (by decide +kernel) ⟨Nat.le_of_ble_eq_true rfl, Nat.le_of_ble_eq_true rfl⟩) hE hS hA 0 1 hR rfl rfl rfl (va_P.app ((hR.sub [0, 1, 2] rfl)) (hRu.sub [0, 1, 2] rfl)) rfl rfl hl.1 (Nat.le_of_ble_eq_true rfl) dX5_shared_39 ⟨Nat.le_of_ble_eq_true rfl, Nat.le_of_ble_eq_true rfl⟩) ?_
      exact xret_i hx hb hr hlk_ dX5_shared_42 (by rw [cvSha, hv2, oel_s, hv2u, oel_s])

theorem hw_X5_differ_f10 : Cond.fieldLink RX5 10 "TailVectors" "now" "LTailVectors$State;" ∈ wsX5_differ := by decide +kernel
theorem hi_X5_differ_RX5 : ∀ w ∈ u_ws RX5 TX5 6, w ∈ wsX5_differ := by decide +kernel
set_option maxHeartbeats 4000000 in
set_option maxRecDepth 100000 in
theorem c_X5_differ (l : Launch) (G : xG) (B : List Nat) (t5 : Nat) (n0 : Nat) (nv : Nat) (sn : Nat) (sv : Nat) (hi : Nat) (ha : Nat) (s0 : Nat) (v0 : Nat) (s1 : Nat) (v1 : Nat) (s2 : Nat) (v2 : Nat) (s3 : Nat) (v3 : Nat) (tx : Nat) (tc : Nat) (tr : Nat) (tw : Nat) (tn : Nat) (X : Xs) (a1 : Int32) (a2 : Int32) (hok : okX X) : Met l yX5_differ wsX5_differ ({ frames := 2, cells := 0, slots := 0, locals := 45 } : Room) (xPc G [.ref t5, .int a1, .int a2] (fun H => tvI G B t5 n0 nv sn sv hi ha s0 v0 s1 v1 s2 v2 s3 v3 tx tc tr tw tn X H)) (k2_QcV (.int (cvDif X a1 a2))) 0 0 (fun _ => False) := by
  refine xMet (cc := cX5_differ) (nL := 5) (ret := (some (.int))) (by decide) rfl (Nat.le_of_ble_eq_true rfl) ?_
  intro p e s m below meth c S hr hlk_ hnm hE hP ls hl
  obtain ⟨hx, hb, hml, hown, hts⟩ := id S
  have hown : s.vm.findClass RX5 = some m.cls := hown
  have hK := hE.1
  have hS : va_S (fun _ : Nat => False) s.heap s.heap [] := va_S.rf
  have hA : ∀ q, (fun _ : Nat => False) q → xB0 G ≤ q := fun _ h => h.elim
  obtain ⟨vf, er, vfs, ers, hc, r, tfv, tfn, tfl, hP, ⟨hNV, hNE⟩, ⟨hSV, hSE⟩, hH⟩ := hP
  obtain ⟨hev24, hm4, htl, hch, hhs, hokv, hoke⟩ := id hok
  have hP : va_P G.1 vwCl [(t5, .inr (5, [.ref n0, .ref sn, .int (nI X.2.2.1), .ref hi, .ref tx, .ref tr])), (n0, .inr (2, [.ref nv, .int (nI X.1.2.1), .int (nI X.1.2.2.1), va_rf er, .int X.1.2.2.2.2])), (nv, .inl (xcV G, 24, .inr (.inr (.inr (.inr vf))))), (sn, .inr (2, [.ref sv, .int (nI X.2.1.2.1), .int (nI X.2.1.2.2.1), va_rf ers, .int X.2.1.2.2.2.2])), (sv, .inl (xcV G, 24, .inr (.inr (.inr (.inr vfs))))), (hi, .inr (0, [.ref ha, .int (nI X.2.2.2.2.1)])), (ha, .inl (xcS G, 4, .inr (.inr (.inr (.inr (hfF s0 s1 s2 s3 r)))))), (s0, .inr (2, [.ref v0, .int (nI ((hc 0).2.1)), .int (nI ((hc 0).2.2.1)), va_rf ((hc 0).2.2.2.1), .int ((hc 0).2.2.2.2)])), (v0, .inl (xcV G, 24, .inr (.inr (.inr (.inr ((hc 0).1)))))), (s1, .inr (2, [.ref v1, .int (nI ((hc 1).2.1)), .int (nI ((hc 1).2.2.1)), va_rf ((hc 1).2.2.2.1), .int ((hc 1).2.2.2.2)])), (v1, .inl (xcV G, 24, .inr (.inr (.inr (.inr ((hc 1).1)))))), (s2, .inr (2, [.ref v2, .int (nI ((hc 2).2.1)), .int (nI ((hc 2).2.2.1)), va_rf ((hc 2).2.2.2.1), .int ((hc 2).2.2.2.2)])), (v2, .inl (xcV G, 24, .inr (.inr (.inr (.inr ((hc 2).1)))))), (s3, .inr (2, [.ref v3, .int (nI ((hc 3).2.1)), .int (nI ((hc 3).2.2.1)), va_rf ((hc 3).2.2.2.1), .int ((hc 3).2.2.2.2)])), (v3, .inl (xcV G, 24, .inr (.inr (.inr (.inr ((hc 3).1)))))), (tx, .inr (3, [.ref tc, .int (nI X.2.2.2.2.2.2)])), (tc, .inl (xcC G, 60, .inl (nf X.2.2.2.2.2.1))), (tr, .inr (1, [.ref tw, .ref tn, .int (nI tfl)])), (tw, .inl (xcI G, 300, .inl tfv)), (tn, .inl (xcI G, 101, .inl tfn))] s.heap := hP
  have hl : lv_has ls 5 [(0, .ref t5), (1, .int a1), (2, .int a2)] := hl
  refine lv_aload_n hx hb dX5_differ_0 rfl (lv_at hl 0 rfl) ?_
  refine va_get (D := G.1) (ci := 5) (v := .ref n0) (C := RX5) (T := TX5) (N := 6) hx hb hts hi_X5_differ_RX5 hown hK hP 0 rfl rfl 0 (by decide) (hts _ hw_X5_differ_f10) (fun _ h9 => h9) rfl dX5_differ_1 ?_
  refine lv_iload_n hx hb dX5_differ_4 rfl (lv_at hl 1 rfl) ?_
  refine xrd (xrunV (As := [.int a1]) (rest := []) S (c_X2_viewOf l G n0 nv vf X.1.2.1 X.1.2.2.1 er X.1.2.2.2.2 a1 ) (cwV 1 hts gX5_differ_X2_viewOf rfl rfl rfl (by decide +kernel) ⟨Nat.le_of_ble_eq_true rfl, Nat.le_of_ble_eq_true rfl⟩) hE hS hA 1 2 hP rfl rfl rfl (hP.sub [1, 2] rfl) rfl rfl hl.1 (Nat.le_of_ble_eq_true rfl) dX5_differ_5 ⟨Nat.le_of_ble_eq_true rfl, Nat.le_of_ble_eq_true rfl⟩) ?_
  rcases ov : vwQ vf a1 with _ | q
  · refine W.eq (g2 := F0 m 8 ls [.null]) rfl ?_
    have hv2 : vwA X.1.1 a1 = none := (hNV.at a1).elim (fun z => z.2) (fun ⟨_, _, z, _⟩ => by rw [ov] at z; cases z)
    refine lv_astore_nN (lv' := [(3, .null), (0, .ref t5), (1, .int a1), (2, .int a2)]) hx hb dX5_differ_8 rfl hl (by decide) rfl (fun ls hl => ?_)
    refine lv_aload_n hx hb dX5_differ_9 rfl (lv_at hl 1 rfl) ?_
    refine va_get (D := G.1) (ci := 5) (v := .ref n0) (C := RX5) (T := TX5) (N := 6) hx hb hts hi_X5_differ_RX5 hown hK hP 0 rfl rfl 0 (by decide) (hts _ hw_X5_differ_f10) (fun _ h9 => h9) rfl dX5_differ_10 ?_
    refine lv_iload_n hx hb dX5_differ_13 rfl (lv_at hl 3 rfl) ?_
    refine xrd (xrunV (As := [.int a2]) (rest := []) S (c_X2_viewOf l G n0 nv vf X.1.2.1 X.1.2.2.1 er X.1.2.2.2.2 a2 ) (cwV 1 hts gX5_differ_X2_viewOf rfl rfl rfl (by decide +kernel) ⟨Nat.le_of_ble_eq_true rfl, Nat.le_of_ble_eq_true rfl⟩) hE hS hA 1 2 hP rfl rfl rfl (hP.sub [1, 2] rfl) rfl rfl hl.1 (Nat.le_of_ble_eq_true rfl) dX5_differ_14 ⟨Nat.le_of_ble_eq_true rfl, Nat.le_of_ble_eq_true rfl⟩) ?_
    rcases ovu : vwQ vf a2 with _ | qu
    · refine W.eq (g2 := F0 m 17 ls [.null]) rfl ?_
      have hv2u : vwA X.1.1 a2 = none := (hNV.at a2).elim (fun z => z.2) (fun ⟨_, _, z, _⟩ => by rw [ovu] at z; cases z)
      refine lv_astoreN (lv' := [(4, .null), (3, .null), (0, .ref t5), (1, .int a1), (2, .int a2)]) hx hb dX5_differ_17 hl (by decide) rfl (fun ls hl => ?_)
      refine lv_aload_nN hx hb dX5_differ_19 rfl (lv_at hl 1 rfl) ?_
      refine lv_ifnullN (tgt := 28) hx hb dX5_differ_20 (by decide) ?_
      refine lv_iconst (v := (-1)) hx hb dX5_differ_28 rfl ?_
      exact xret_i hx hb hr hlk_ dX5_differ_29 (by rw [cvDif, hv2, oel_n])
    · refine W.eq (g2 := F0 m 17 ls [.ref qu]) rfl ?_
      obtain ⟨q2u, vu, hv1u, hv2u, rau, hqBu, hVu, vau, nau, hb3u, hRu⟩ := (hNV.at a2).resolve_left (fun z => by rw [z.1] at ovu; cases ovu)
      obtain rfl : q2u = qu := Option.some.inj (hv1u.symm.trans ovu)
      have hokwu : okV vu := by obtain ⟨k9, hk9_, _, h9⟩ := vwA_lt hv2u; exact hokv k9 vu hk9_ h9
      obtain ⟨⟨hrlu, hrcu, hrou⟩, hvwu, hvbu⟩ := hokwu
      refine lv_astore (lv' := [(4, .ref q2u), (3, .null), (0, .ref t5), (1, .int a1), (2, .int a2)]) hx hb dX5_differ_17 hl (by decide) rfl (fun ls hl => ?_)
      refine lv_aload_nN hx hb dX5_differ_19 rfl (lv_at hl 1 rfl) ?_
      refine lv_ifnullN (tgt := 28) hx hb dX5_differ_20 (by decide) ?_
      refine lv_iconst (v := (-1)) hx hb dX5_differ_28 rfl ?_
      exact xret_i hx hb hr hlk_ dX5_differ_29 (by rw [cvDif, hv2, oel_n])
  · refine W.eq (g2 := F0 m 8 ls [.ref q]) rfl ?_
    obtain ⟨q2, v, hv1, hv2, ra, hqB, hV, va, na, hb3, hR⟩ := (hNV.at a1).resolve_left (fun z => by rw [z.1] at ov; cases ov)
    obtain rfl : q2 = q := Option.some.inj (hv1.symm.trans ov)
    have hokw : okV v := by obtain ⟨k9, hk9_, _, h9⟩ := vwA_lt hv2; exact hokv k9 v hk9_ h9
    obtain ⟨⟨hrl, hrc, hro⟩, hvw, hvb⟩ := hokw
    refine lv_astore_n (lv' := [(3, .ref q2), (0, .ref t5), (1, .int a1), (2, .int a2)]) hx hb dX5_differ_8 rfl hl (by decide) rfl (fun ls hl => ?_)
    refine lv_aload_n hx hb dX5_differ_9 rfl (lv_at hl 1 rfl) ?_
    refine va_get (D := G.1) (ci := 5) (v := .ref n0) (C := RX5) (T := TX5) (N := 6) hx hb hts hi_X5_differ_RX5 hown hK hP 0 rfl rfl 0 (by decide) (hts _ hw_X5_differ_f10) (fun _ h9 => h9) rfl dX5_differ_10 ?_
    refine lv_iload_n hx hb dX5_differ_13 rfl (lv_at hl 3 rfl) ?_
    refine xrd (xrunV (As := [.int a2]) (rest := []) S (c_X2_viewOf l G n0 nv vf X.1.2.1 X.1.2.2.1 er X.1.2.2.2.2 a2 ) (cwV 1 hts gX5_differ_X2_viewOf rfl rfl rfl (by decide +kernel) ⟨Nat.le_of_ble_eq_true rfl, Nat.le_of_ble_eq_true rfl⟩) hE hS hA 1 2 hP rfl rfl rfl (hP.sub [1, 2] rfl) rfl rfl hl.1 (Nat.le_of_ble_eq_true rfl) dX5_differ_14 ⟨Nat.le_of_ble_eq_true rfl, Nat.le_of_ble_eq_true rfl⟩) ?_
    rcases ovu : vwQ vf a2 with _ | qu
    · refine W.eq (g2 := F0 m 17 ls [.null]) rfl ?_
      have hv2u : vwA X.1.1 a2 = none := (hNV.at a2).elim (fun z => z.2) (fun ⟨_, _, z, _⟩ => by rw [ovu] at z; cases z)
      refine lv_astoreN (lv' := [(4, .null), (3, .ref q2), (0, .ref t5), (1, .int a1), (2, .int a2)]) hx hb dX5_differ_17 hl (by decide) rfl (fun ls hl => ?_)
      refine lv_aload_n hx hb dX5_differ_19 rfl (lv_at hl 1 rfl) ?_
      refine lv_ifnull hx hb dX5_differ_20 ?_
      refine lv_aloadN hx hb dX5_differ_23 (lv_at hl 0 rfl) ?_
      refine lv_ifnonnullN hx hb dX5_differ_25 ?_
      refine lv_iconst (v := (-1)) hx hb dX5_differ_28 rfl ?_
      exact xret_i hx hb hr hlk_ dX5_differ_29 (by rw [cvDif, hv2, oel_s, hv2u, oel_n])
    · refine W.eq (g2 := F0 m 17 ls [.ref qu]) rfl ?_
      obtain ⟨q2u, vu, hv1u, hv2u, rau, hqBu, hVu, vau, nau, hb3u, hRu⟩ := (hNV.at a2).resolve_left (fun z => by rw [z.1] at ovu; cases ovu)
      obtain rfl : q2u = qu := Option.some.inj (hv1u.symm.trans ovu)
      have hokwu : okV vu := by obtain ⟨k9, hk9_, _, h9⟩ := vwA_lt hv2u; exact hokv k9 vu hk9_ h9
      obtain ⟨⟨hrlu, hrcu, hrou⟩, hvwu, hvbu⟩ := hokwu
      refine lv_astore (lv' := [(4, .ref q2u), (3, .ref q2), (0, .ref t5), (1, .int a1), (2, .int a2)]) hx hb dX5_differ_17 hl (by decide) rfl (fun ls hl => ?_)
      refine lv_aload_n hx hb dX5_differ_19 rfl (lv_at hl 1 rfl) ?_
      refine lv_ifnull hx hb dX5_differ_20 ?_
      refine lv_aload hx hb dX5_differ_23 (lv_at hl 0 rfl) ?_
      refine lv_ifnonnull (tgt := 30) hx hb dX5_differ_25 (by decide) ?_
      refine lv_aload_n hx hb dX5_differ_30 rfl (lv_at hl 1 rfl) ?_
      refine lv_aload hx hb dX5_differ_31 (lv_at hl 0 rfl) ?_
      refine xrd (xrunV (As := [.ref q2u]) (rest := []) S (c_X4_firstDifference l G q2 ra v.2.1 v.2.2.1 v.2.2.2 va na v.1.1 v.1.2.1 v.1.2.2.1 v.1.2.2.2 q2u rau vu.2.1 vu.2.2.1 vu.2.2.2 vau nau vu.1.1 vu.1.2.1 vu.1.2.2.1 vu.1.2.2.2 (by omega) (by omega) (by omega) (by omega) (by omega) (by omega)) (cwV 1 hts gX5_differ_X4_firstDifference rfl rfl rfl (by decide +kernel) ⟨Nat.le_of_ble_eq_true rfl, Nat.le_of_ble_eq_true rfl⟩) hE hS hA 0 4 hV rfl rfl rfl (va_P.app (va_P.app (va_P.app ((hV.sub [0] rfl)) (hR.sub [0, 1, 2] rfl)) (hVu.sub [0] rfl)) (hRu.sub [0, 1, 2] rfl)) rfl rfl hl.1 (Nat.le_of_ble_eq_true rfl) dX5_differ_33 ⟨Nat.le_of_ble_eq_true rfl, Nat.le_of_ble_eq_true rfl⟩) ?_
      exact xret_i hx hb hr hlk_ dX5_differ_36 (by rw [cvDif, hv2, oel_s, hv2u, oel_s]; rfl)

theorem hw_X5_find_f10 : Cond.fieldLink RX5 10 "TailVectors" "now" "LTailVectors$State;" ∈ wsX5_find := by decide +kernel
theorem hi_X5_find_RX5 : ∀ w ∈ u_ws RX5 TX5 6, w ∈ wsX5_find := by decide +kernel
set_option maxHeartbeats 4000000 in
set_option maxRecDepth 100000 in
theorem c_X5_find (l : Launch) (G : xG) (B : List Nat) (t5 : Nat) (n0 : Nat) (nv : Nat) (sn : Nat) (sv : Nat) (hi : Nat) (ha : Nat) (s0 : Nat) (v0 : Nat) (s1 : Nat) (v1 : Nat) (s2 : Nat) (v2 : Nat) (s3 : Nat) (v3 : Nat) (tx : Nat) (tc : Nat) (tr : Nat) (tw : Nat) (tn : Nat) (X : Xs) (a1 : Int32) (a2 : Int32) (a3 : Int32) (hok : okX X) : Met l yX5_find wsX5_find ({ frames := 2, cells := 0, slots := 0, locals := 45 } : Room) (xPc G [.ref t5, .int a1, .int a2, .int a3] (fun H => tvI G B t5 n0 nv sn sv hi ha s0 v0 s1 v1 s2 v2 s3 v3 tx tc tr tw tn X H)) (k2_QcV (.int (cvFnd X a1 a2 a3))) 0 0 (fun _ => False) := by
  refine xMet (cc := cX5_find) (nL := 5) (ret := (some (.int))) (by decide) rfl (Nat.le_of_ble_eq_true rfl) ?_
  intro p e s m below meth c S hr hlk_ hnm hE hP ls hl
  obtain ⟨hx, hb, hml, hown, hts⟩ := id S
  have hown : s.vm.findClass RX5 = some m.cls := hown
  have hK := hE.1
  have hS : va_S (fun _ : Nat => False) s.heap s.heap [] := va_S.rf
  have hA : ∀ q, (fun _ : Nat => False) q → xB0 G ≤ q := fun _ h => h.elim
  obtain ⟨vf, er, vfs, ers, hc, r, tfv, tfn, tfl, hP, ⟨hNV, hNE⟩, ⟨hSV, hSE⟩, hH⟩ := hP
  obtain ⟨hev24, hm4, htl, hch, hhs, hokv, hoke⟩ := id hok
  have hP : va_P G.1 vwCl [(t5, .inr (5, [.ref n0, .ref sn, .int (nI X.2.2.1), .ref hi, .ref tx, .ref tr])), (n0, .inr (2, [.ref nv, .int (nI X.1.2.1), .int (nI X.1.2.2.1), va_rf er, .int X.1.2.2.2.2])), (nv, .inl (xcV G, 24, .inr (.inr (.inr (.inr vf))))), (sn, .inr (2, [.ref sv, .int (nI X.2.1.2.1), .int (nI X.2.1.2.2.1), va_rf ers, .int X.2.1.2.2.2.2])), (sv, .inl (xcV G, 24, .inr (.inr (.inr (.inr vfs))))), (hi, .inr (0, [.ref ha, .int (nI X.2.2.2.2.1)])), (ha, .inl (xcS G, 4, .inr (.inr (.inr (.inr (hfF s0 s1 s2 s3 r)))))), (s0, .inr (2, [.ref v0, .int (nI ((hc 0).2.1)), .int (nI ((hc 0).2.2.1)), va_rf ((hc 0).2.2.2.1), .int ((hc 0).2.2.2.2)])), (v0, .inl (xcV G, 24, .inr (.inr (.inr (.inr ((hc 0).1)))))), (s1, .inr (2, [.ref v1, .int (nI ((hc 1).2.1)), .int (nI ((hc 1).2.2.1)), va_rf ((hc 1).2.2.2.1), .int ((hc 1).2.2.2.2)])), (v1, .inl (xcV G, 24, .inr (.inr (.inr (.inr ((hc 1).1)))))), (s2, .inr (2, [.ref v2, .int (nI ((hc 2).2.1)), .int (nI ((hc 2).2.2.1)), va_rf ((hc 2).2.2.2.1), .int ((hc 2).2.2.2.2)])), (v2, .inl (xcV G, 24, .inr (.inr (.inr (.inr ((hc 2).1)))))), (s3, .inr (2, [.ref v3, .int (nI ((hc 3).2.1)), .int (nI ((hc 3).2.2.1)), va_rf ((hc 3).2.2.2.1), .int ((hc 3).2.2.2.2)])), (v3, .inl (xcV G, 24, .inr (.inr (.inr (.inr ((hc 3).1)))))), (tx, .inr (3, [.ref tc, .int (nI X.2.2.2.2.2.2)])), (tc, .inl (xcC G, 60, .inl (nf X.2.2.2.2.2.1))), (tr, .inr (1, [.ref tw, .ref tn, .int (nI tfl)])), (tw, .inl (xcI G, 300, .inl tfv)), (tn, .inl (xcI G, 101, .inl tfn))] s.heap := hP
  have hl : lv_has ls 5 [(0, .ref t5), (1, .int a1), (2, .int a2), (3, .int a3)] := hl
  refine lv_aload_n hx hb dX5_find_0 rfl (lv_at hl 0 rfl) ?_
  refine va_get (D := G.1) (ci := 5) (v := .ref n0) (C := RX5) (T := TX5) (N := 6) hx hb hts hi_X5_find_RX5 hown hK hP 0 rfl rfl 0 (by decide) (hts _ hw_X5_find_f10) (fun _ h9 => h9) rfl dX5_find_1 ?_
  refine lv_iload_n hx hb dX5_find_4 rfl (lv_at hl 1 rfl) ?_
  refine xrd (xrunV (As := [.int a1]) (rest := []) S (c_X2_viewOf l G n0 nv vf X.1.2.1 X.1.2.2.1 er X.1.2.2.2.2 a1 ) (cwV 1 hts gX5_find_X2_viewOf rfl rfl rfl (by decide +kernel) ⟨Nat.le_of_ble_eq_true rfl, Nat.le_of_ble_eq_true rfl⟩) hE hS hA 1 2 hP rfl rfl rfl (hP.sub [1, 2] rfl) rfl rfl hl.1 (Nat.le_of_ble_eq_true rfl) dX5_find_5 ⟨Nat.le_of_ble_eq_true rfl, Nat.le_of_ble_eq_true rfl⟩) ?_
  rcases ov : vwQ vf a1 with _ | q
  · refine W.eq (g2 := F0 m 8 ls [.null]) rfl ?_
    have hv2 : vwA X.1.1 a1 = none := (hNV.at a1).elim (fun z => z.2) (fun ⟨_, _, z, _⟩ => by rw [ov] at z; cases z)
    refine lv_astoreN (lv' := [(4, .null), (0, .ref t5), (1, .int a1), (2, .int a2), (3, .int a3)]) hx hb dX5_find_8 hl (by decide) rfl (fun ls hl => ?_)
    refine lv_aloadN hx hb dX5_find_10 (lv_at hl 0 rfl) ?_
    refine lv_ifnonnullN hx hb dX5_find_12 ?_
    refine lv_iconst (v := (-1)) hx hb dX5_find_15 rfl ?_
    exact xret_i hx hb hr hlk_ dX5_find_16 (by rw [cvFnd, hv2, oel_n])
  · refine W.eq (g2 := F0 m 8 ls [.ref q]) rfl ?_
    obtain ⟨q2, v, hv1, hv2, ra, hqB, hV, va, na, hb3, hR⟩ := (hNV.at a1).resolve_left (fun z => by rw [z.1] at ov; cases ov)
    obtain rfl : q2 = q := Option.some.inj (hv1.symm.trans ov)
    have hokw : okV v := by obtain ⟨k9, hk9_, _, h9⟩ := vwA_lt hv2; exact hokv k9 v hk9_ h9
    obtain ⟨⟨hrl, hrc, hro⟩, hvw, hvb⟩ := hokw
    refine lv_astore (lv' := [(4, .ref q2), (0, .ref t5), (1, .int a1), (2, .int a2), (3, .int a3)]) hx hb dX5_find_8 hl (by decide) rfl (fun ls hl => ?_)
    refine lv_aload hx hb dX5_find_10 (lv_at hl 0 rfl) ?_
    refine lv_ifnonnull (tgt := 17) hx hb dX5_find_12 (by decide) ?_
    refine lv_iload_n hx hb dX5_find_17 rfl (lv_at hl 4 rfl) ?_
    refine lv_if_ge (tgt := 24) hx hb dX5_find_18 (by decide) (fun c_18 => ?_) (fun c_18 => ?_)
    · have c_18b := Int32.not_lt.mpr c_18
      obtain ⟨k, hk9, rfl⟩ := nI_of c_18b
      refine lv_aload hx hb dX5_find_24 (lv_at hl 0 rfl) ?_
      refine lv_iload_n hx hb dX5_find_26 rfl (lv_at hl 3 rfl) ?_
      refine lv_iload_n hx hb dX5_find_27 rfl (lv_at hl 4 rfl) ?_
      refine xrd (xrunV (As := [.int a2, .int (nI k)]) (rest := []) S (c_X4_placeOf l G q2 ra v.2.1 v.2.2.1 v.2.2.2 va na v.1.1 v.1.2.1 v.1.2.2.1 v.1.2.2.2 a2 k (by omega) (by omega) (by omega) hk9) (cwV 2 hts gX5_find_X4_placeOf rfl rfl rfl (by decide +kernel) ⟨Nat.le_of_ble_eq_true rfl, Nat.le_of_ble_eq_true rfl⟩) hE hS hA 0 4 hV rfl rfl rfl (va_P.app ((hV.sub [0] rfl)) (hR.sub [0, 1, 2] rfl)) rfl rfl hl.1 (Nat.le_of_ble_eq_true rfl) dX5_find_28 ⟨Nat.le_of_ble_eq_true rfl, Nat.le_of_ble_eq_true rfl⟩) ?_
      exact xret_i hx hb hr hlk_ dX5_find_31 (by rw [cvFnd, hv2, oel_s, if_neg c_18b, nI_clamp hk9]; rfl)
    · refine lv_bipush (v := (-2)) hx hb dX5_find_21 (by decide) ?_
      exact xret_i hx hb hr hlk_ dX5_find_23 (by rw [cvFnd, hv2, oel_s, if_pos (Int32.not_le.mp c_18)])

theorem hw_X5_vector_f10 : Cond.fieldLink RX5 10 "TailVectors" "now" "LTailVectors$State;" ∈ wsX5_vector := by decide +kernel
theorem hi_X5_vector_RX5 : ∀ w ∈ u_ws RX5 TX5 6, w ∈ wsX5_vector := by decide +kernel
theorem hw_X5_vector_f89 : Cond.fieldLink RX5 89 "TailVectors$View" "many" "I" ∈ wsX5_vector := by decide +kernel
theorem hi_X5_vector_RX4 : ∀ w ∈ u_ws RX4 TX4 4, w ∈ wsX5_vector := by decide +kernel
theorem hw_X5_vector_f82 : Cond.fieldLink RX5 82 "TailVectors$View" "window" "Z" ∈ wsX5_vector := by decide +kernel
theorem hw_X5_vector_f85 : Cond.fieldLink RX5 85 "TailVectors$View" "first" "I" ∈ wsX5_vector := by decide +kernel
theorem hw_X5_vector_f75 : Cond.fieldLink RX5 75 "TailVectors$View" "row" "LTailVectors$Row;" ∈ wsX5_vector := by decide +kernel
theorem hw_X5_vector_f112 : Cond.fieldLink RX5 112 "TailVectors$Row" "length" "I" ∈ wsX5_vector := by decide +kernel
theorem hi_X5_vector_RX1 : ∀ w ∈ u_ws RX1 TX1 3, w ∈ wsX5_vector := by decide +kernel
set_option maxHeartbeats 4000000 in
set_option maxRecDepth 100000 in
theorem c_X5_vector (l : Launch) (G : xG) (B : List Nat) (t5 : Nat) (n0 : Nat) (nv : Nat) (sn : Nat) (sv : Nat) (hi : Nat) (ha : Nat) (s0 : Nat) (v0 : Nat) (s1 : Nat) (v1 : Nat) (s2 : Nat) (v2 : Nat) (s3 : Nat) (v3 : Nat) (tx : Nat) (tc : Nat) (tr : Nat) (tw : Nat) (tn : Nat) (X : Xs) (a1 : Int32) (a2 : Int32) (hok : okX X) : Met l yX5_vector wsX5_vector ({ frames := 2, cells := 0, slots := 0, locals := 44 } : Room) (xPc G [.ref t5, .int a1, .int a2] (fun H => tvI G B t5 n0 nv sn sv hi ha s0 v0 s1 v1 s2 v2 s3 v3 tx tc tr tw tn X H)) (k2_QcV (.int (cvVec X a1 a2))) 0 0 (fun _ => False) := by
  refine xMet (cc := cX5_vector) (nL := 4) (ret := (some (.int))) (by decide) rfl (Nat.le_of_ble_eq_true rfl) ?_
  intro p e s m below meth c S hr hlk_ hnm hE hP ls hl
  obtain ⟨hx, hb, hml, hown, hts⟩ := id S
  have hown : s.vm.findClass RX5 = some m.cls := hown
  have hK := hE.1
  have hS : va_S (fun _ : Nat => False) s.heap s.heap [] := va_S.rf
  have hA : ∀ q, (fun _ : Nat => False) q → xB0 G ≤ q := fun _ h => h.elim
  obtain ⟨vf, er, vfs, ers, hc, r, tfv, tfn, tfl, hP, ⟨hNV, hNE⟩, ⟨hSV, hSE⟩, hH⟩ := hP
  obtain ⟨hev24, hm4, htl, hch, hhs, hokv, hoke⟩ := id hok
  have hP : va_P G.1 vwCl [(t5, .inr (5, [.ref n0, .ref sn, .int (nI X.2.2.1), .ref hi, .ref tx, .ref tr])), (n0, .inr (2, [.ref nv, .int (nI X.1.2.1), .int (nI X.1.2.2.1), va_rf er, .int X.1.2.2.2.2])), (nv, .inl (xcV G, 24, .inr (.inr (.inr (.inr vf))))), (sn, .inr (2, [.ref sv, .int (nI X.2.1.2.1), .int (nI X.2.1.2.2.1), va_rf ers, .int X.2.1.2.2.2.2])), (sv, .inl (xcV G, 24, .inr (.inr (.inr (.inr vfs))))), (hi, .inr (0, [.ref ha, .int (nI X.2.2.2.2.1)])), (ha, .inl (xcS G, 4, .inr (.inr (.inr (.inr (hfF s0 s1 s2 s3 r)))))), (s0, .inr (2, [.ref v0, .int (nI ((hc 0).2.1)), .int (nI ((hc 0).2.2.1)), va_rf ((hc 0).2.2.2.1), .int ((hc 0).2.2.2.2)])), (v0, .inl (xcV G, 24, .inr (.inr (.inr (.inr ((hc 0).1)))))), (s1, .inr (2, [.ref v1, .int (nI ((hc 1).2.1)), .int (nI ((hc 1).2.2.1)), va_rf ((hc 1).2.2.2.1), .int ((hc 1).2.2.2.2)])), (v1, .inl (xcV G, 24, .inr (.inr (.inr (.inr ((hc 1).1)))))), (s2, .inr (2, [.ref v2, .int (nI ((hc 2).2.1)), .int (nI ((hc 2).2.2.1)), va_rf ((hc 2).2.2.2.1), .int ((hc 2).2.2.2.2)])), (v2, .inl (xcV G, 24, .inr (.inr (.inr (.inr ((hc 2).1)))))), (s3, .inr (2, [.ref v3, .int (nI ((hc 3).2.1)), .int (nI ((hc 3).2.2.1)), va_rf ((hc 3).2.2.2.1), .int ((hc 3).2.2.2.2)])), (v3, .inl (xcV G, 24, .inr (.inr (.inr (.inr ((hc 3).1)))))), (tx, .inr (3, [.ref tc, .int (nI X.2.2.2.2.2.2)])), (tc, .inl (xcC G, 60, .inl (nf X.2.2.2.2.2.1))), (tr, .inr (1, [.ref tw, .ref tn, .int (nI tfl)])), (tw, .inl (xcI G, 300, .inl tfv)), (tn, .inl (xcI G, 101, .inl tfn))] s.heap := hP
  have hl : lv_has ls 4 [(0, .ref t5), (1, .int a1), (2, .int a2)] := hl
  refine lv_aload_n hx hb dX5_vector_0 rfl (lv_at hl 0 rfl) ?_
  refine va_get (D := G.1) (ci := 5) (v := .ref n0) (C := RX5) (T := TX5) (N := 6) hx hb hts hi_X5_vector_RX5 hown hK hP 0 rfl rfl 0 (by decide) (hts _ hw_X5_vector_f10) (fun _ h9 => h9) rfl dX5_vector_1 ?_
  refine lv_iload_n hx hb dX5_vector_4 rfl (lv_at hl 1 rfl) ?_
  refine xrd (xrunV (As := [.int a1]) (rest := []) S (c_X2_viewOf l G n0 nv vf X.1.2.1 X.1.2.2.1 er X.1.2.2.2.2 a1 ) (cwV 1 hts gX5_vector_X2_viewOf rfl rfl rfl (by decide +kernel) ⟨Nat.le_of_ble_eq_true rfl, Nat.le_of_ble_eq_true rfl⟩) hE hS hA 1 2 hP rfl rfl rfl (hP.sub [1, 2] rfl) rfl rfl hl.1 (Nat.le_of_ble_eq_true rfl) dX5_vector_5 ⟨Nat.le_of_ble_eq_true rfl, Nat.le_of_ble_eq_true rfl⟩) ?_
  rcases ov : vwQ vf a1 with _ | q
  · refine W.eq (g2 := F0 m 8 ls [.null]) rfl ?_
    have hv2 : vwA X.1.1 a1 = none := (hNV.at a1).elim (fun z => z.2) (fun ⟨_, _, z, _⟩ => by rw [ov] at z; cases z)
    refine lv_astore_nN (lv' := [(3, .null), (0, .ref t5), (1, .int a1), (2, .int a2)]) hx hb dX5_vector_8 rfl hl (by decide) rfl (fun ls hl => ?_)
    refine lv_aload_nN hx hb dX5_vector_9 rfl (lv_at hl 0 rfl) ?_
    refine lv_ifnonnullN hx hb dX5_vector_10 ?_
    refine lv_iconst (v := (-1)) hx hb dX5_vector_13 rfl ?_
    exact xret_i hx hb hr hlk_ dX5_vector_14 (by rw [cvVec, hv2, oel_n])
  · refine W.eq (g2 := F0 m 8 ls [.ref q]) rfl ?_
    obtain ⟨q2, v, hv1, hv2, ra, hqB, hV, va, na, hb3, hR⟩ := (hNV.at a1).resolve_left (fun z => by rw [z.1] at ov; cases ov)
    obtain rfl : q2 = q := Option.some.inj (hv1.symm.trans ov)
    have hokw : okV v := by obtain ⟨k9, hk9_, _, h9⟩ := vwA_lt hv2; exact hokv k9 v hk9_ h9
    obtain ⟨⟨hrl, hrc, hro⟩, hvw, hvb⟩ := hokw
    refine lv_astore_n (lv' := [(3, .ref q2), (0, .ref t5), (1, .int a1), (2, .int a2)]) hx hb dX5_vector_8 rfl hl (by decide) rfl (fun ls hl => ?_)
    refine lv_aload_n hx hb dX5_vector_9 rfl (lv_at hl 0 rfl) ?_
    refine lv_ifnonnull (tgt := 15) hx hb dX5_vector_10 (by decide) ?_
    refine lv_iload_n hx hb dX5_vector_15 rfl (lv_at hl 3 rfl) ?_
    by_cases c_16 : 0 ≤ (a2).toInt ∧ (a2).toInt ≤ 9
    · obtain ⟨j16, hj16⟩ : ∃ j : Nat, j = (a2).toInt.toNat := ⟨_, rfl⟩
      have hx16 : (a2).toInt = (j16 : Int) + 0 := by omega
      rcases (show j16 = 0 ∨ j16 = 1 ∨ j16 = 2 ∨ j16 = 3 ∨ j16 = 4 ∨ j16 = 5 ∨ j16 = 6 ∨ j16 = 7 ∨ j16 = 8 ∨ j16 = 9 by omega) with hz | hz | hz | hz | hz | hz | hz | hz | hz | hz
      · have hw16 : a2 = 0 := Int32.toInt_inj.mp (by rw [hx16, hz]; rfl)
        refine lv_tableIn (off := 56) (tgt := 72) hx hb dX5_vector_16 (by rw [hw16]; decide) (by rw [hw16]; decide) (by rw [hw16]; rfl) (by decide) ?_
        refine lv_aload_n hx hb dX5_vector_72 rfl (lv_at hl 0 rfl) ?_
        refine va_get (D := G.1) (ci := 4) (v := .int (nI v.2.2.2)) (C := RX4) (T := TX4) (N := 4) hx hb hts hi_X5_vector_RX4 hown hK hV 0 rfl rfl 3 (by decide) (hts _ hw_X5_vector_f89) (fun _ h9 => h9) rfl dX5_vector_73 ?_
        exact xret_i hx hb hr hlk_ dX5_vector_76 (by rw [cvVec, hv2, oel_s, hw16]; rfl)
      · have hw16 : a2 = 1 := Int32.toInt_inj.mp (by rw [hx16, hz]; rfl)
        refine lv_tableIn (off := 61) (tgt := 77) hx hb dX5_vector_16 (by rw [hw16]; decide) (by rw [hw16]; decide) (by rw [hw16]; rfl) (by decide) ?_
        refine lv_aload_n hx hb dX5_vector_77 rfl (lv_at hl 0 rfl) ?_
        refine va_get (D := G.1) (ci := 4) (v := .int (nI v.2.1)) (C := RX4) (T := TX4) (N := 4) hx hb hts hi_X5_vector_RX4 hown hK hV 0 rfl rfl 1 (by decide) (hts _ hw_X5_vector_f82) (fun _ h9 => h9) rfl dX5_vector_78 ?_
        refine n_if_eq (tgt := 88) hx hb (by omega) dX5_vector_81 (by decide) (fun c_81 => ?_) (fun c_81 => ?_)
        · refine lv_iconst (v := nI 0) hx hb dX5_vector_88 rfl ?_
          exact xret_i hx hb hr hlk_ dX5_vector_89 (by rw [cvVec, hv2, oel_s, hw16]; exact xb0 (fun z => z c_81))
        · refine lv_iconst (v := nI 1) hx hb dX5_vector_84 rfl ?_
          refine lv_goto (tgt := 89) hx hb dX5_vector_85 (by decide) ?_
          exact xret_i hx hb hr hlk_ dX5_vector_89 (by rw [cvVec, hv2, oel_s, hw16]; exact xb1 c_81)
      · have hw16 : a2 = 2 := Int32.toInt_inj.mp (by rw [hx16, hz]; rfl)
        refine lv_tableIn (off := 74) (tgt := 90) hx hb dX5_vector_16 (by rw [hw16]; decide) (by rw [hw16]; decide) (by rw [hw16]; rfl) (by decide) ?_
        refine lv_aload_n hx hb dX5_vector_90 rfl (lv_at hl 0 rfl) ?_
        refine va_get (D := G.1) (ci := 4) (v := .int (nI v.2.2.1)) (C := RX4) (T := TX4) (N := 4) hx hb hts hi_X5_vector_RX4 hown hK hV 0 rfl rfl 2 (by decide) (hts _ hw_X5_vector_f85) (fun _ h9 => h9) rfl dX5_vector_91 ?_
        exact xret_i hx hb hr hlk_ dX5_vector_94 (by rw [cvVec, hv2, oel_s, hw16]; rfl)
      · have hw16 : a2 = 3 := Int32.toInt_inj.mp (by rw [hx16, hz]; rfl)
        refine lv_tableIn (off := 79) (tgt := 95) hx hb dX5_vector_16 (by rw [hw16]; decide) (by rw [hw16]; decide) (by rw [hw16]; rfl) (by decide) ?_
        refine lv_aload_n hx hb dX5_vector_95 rfl (lv_at hl 0 rfl) ?_
        refine va_get (D := G.1) (ci := 4) (v := .ref ra) (C := RX4) (T := TX4) (N := 4) hx hb hts hi_X5_vector_RX4 hown hK hV 0 rfl rfl 0 (by decide) (hts _ hw_X5_vector_f75) (fun _ h9 => h9) rfl dX5_vector_96 ?_
        refine va_get (D := G.1) (ci := 1) (v := .int (nI v.1.2.2.2)) (C := RX1) (T := TX1) (N := 3) hx hb hts hi_X5_vector_RX1 hown hK hR 0 rfl rfl 2 (by decide) (hts _ hw_X5_vector_f112) (fun _ h9 => h9) rfl dX5_vector_99 ?_
        exact xret_i hx hb hr hlk_ dX5_vector_102 (by rw [cvVec, hv2, oel_s, hw16]; rfl)
      · have hw16 : a2 = 4 := Int32.toInt_inj.mp (by rw [hx16, hz]; rfl)
        refine lv_tableIn (off := 87) (tgt := 103) hx hb dX5_vector_16 (by rw [hw16]; decide) (by rw [hw16]; decide) (by rw [hw16]; rfl) (by decide) ?_
        refine lv_aload_n hx hb dX5_vector_103 rfl (lv_at hl 0 rfl) ?_
        refine va_get (D := G.1) (ci := 4) (v := .ref ra) (C := RX4) (T := TX4) (N := 4) hx hb hts hi_X5_vector_RX4 hown hK hV 0 rfl rfl 0 (by decide) (hts _ hw_X5_vector_f75) (fun _ h9 => h9) rfl dX5_vector_104 ?_
        refine xrd (xrunV (As := []) (rest := []) S (c_X1_leaves l G ra va na v.1.1 v.1.2.1 v.1.2.2.1 v.1.2.2.2 hrl) (cwV 0 hts gX5_vector_X1_leaves rfl rfl rfl (by decide +kernel) ⟨Nat.le_of_ble_eq_true rfl, Nat.le_of_ble_eq_true rfl⟩) hE hS hA 0 1 hR rfl rfl rfl hR rfl rfl hl.1 (Nat.le_of_ble_eq_true rfl) dX5_vector_107 ⟨Nat.le_of_ble_eq_true rfl, Nat.le_of_ble_eq_true rfl⟩) ?_
        exact xret_i hx hb hr hlk_ dX5_vector_110 (by rw [cvVec, hv2, oel_s, hw16]; rfl)
      · have hw16 : a2 = 5 := Int32.toInt_inj.mp (by rw [hx16, hz]; rfl)
        refine lv_tableIn (off := 95) (tgt := 111) hx hb dX5_vector_16 (by rw [hw16]; decide) (by rw [hw16]; decide) (by rw [hw16]; rfl) (by decide) ?_
        refine lv_aload_n hx hb dX5_vector_111 rfl (lv_at hl 0 rfl) ?_
        refine va_get (D := G.1) (ci := 4) (v := .ref ra) (C := RX4) (T := TX4) (N := 4) hx hb hts hi_X5_vector_RX4 hown hK hV 0 rfl rfl 0 (by decide) (hts _ hw_X5_vector_f75) (fun _ h9 => h9) rfl dX5_vector_112 ?_
        refine xrd (xrunV (As := []) (rest := []) S (c_X1_blocks l G ra va na v.1.1 v.1.2.1 v.1.2.2.1 v.1.2.2.2 ) (cwV 0 hts gX5_vector_X1_blocks rfl rfl rfl (by decide +kernel) ⟨Nat.le_of_ble_eq_true rfl, Nat.le_of_ble_eq_true rfl⟩) hE hS hA 0 1 hR rfl rfl rfl hR rfl rfl hl.1 (Nat.le_of_ble_eq_true rfl) dX5_vector_115 ⟨Nat.le_of_ble_eq_true rfl, Nat.le_of_ble_eq_true rfl⟩) ?_
        exact xret_i hx hb hr hlk_ dX5_vector_118 (by rw [cvVec, hv2, oel_s, hw16]; rfl)
      · have hw16 : a2 = 6 := Int32.toInt_inj.mp (by rw [hx16, hz]; rfl)
        refine lv_tableIn (off := 103) (tgt := 119) hx hb dX5_vector_16 (by rw [hw16]; decide) (by rw [hw16]; decide) (by rw [hw16]; rfl) (by decide) ?_
        refine lv_aload_n hx hb dX5_vector_119 rfl (lv_at hl 0 rfl) ?_
        refine va_get (D := G.1) (ci := 4) (v := .ref ra) (C := RX4) (T := TX4) (N := 4) hx hb hts hi_X5_vector_RX4 hown hK hV 0 rfl rfl 0 (by decide) (hts _ hw_X5_vector_f75) (fun _ h9 => h9) rfl dX5_vector_120 ?_
        refine xrd (xrunV (As := []) (rest := []) S (c_X1_leaves l G ra va na v.1.1 v.1.2.1 v.1.2.2.1 v.1.2.2.2 hrl) (cwV 0 hts gX5_vector_X1_leaves rfl rfl rfl (by decide +kernel) ⟨Nat.le_of_ble_eq_true rfl, Nat.le_of_ble_eq_true rfl⟩) hE hS hA 0 1 hR rfl rfl rfl hR rfl rfl hl.1 (Nat.le_of_ble_eq_true rfl) dX5_vector_123 ⟨Nat.le_of_ble_eq_true rfl, Nat.le_of_ble_eq_true rfl⟩) ?_
        refine xrd (xrunS (As := [.int (nI (rLv v.1.2.2.2))]) (rest := []) S (c_X5_rootLevel_n l G (rLv v.1.2.2.2) (by have := rLv_le hrl; omega)) (va_cwS 1 hts gX5_vector_X5_rootLevel rfl rfl rfl (by decide +kernel) ⟨Nat.le_of_ble_eq_true rfl, Nat.le_of_ble_eq_true rfl⟩) hE hS hA trivial rfl rfl hl.1 (Nat.le_of_ble_eq_true rfl) dX5_vector_126 ⟨Nat.le_of_ble_eq_true rfl, Nat.le_of_ble_eq_true rfl⟩) ?_
        exact xret_i hx hb hr hlk_ dX5_vector_129 (by rw [cvVec, hv2, oel_s, hw16]; rfl)
      · have hw16 : a2 = 7 := Int32.toInt_inj.mp (by rw [hx16, hz]; rfl)
        refine lv_tableIn (off := 114) (tgt := 130) hx hb dX5_vector_16 (by rw [hw16]; decide) (by rw [hw16]; decide) (by rw [hw16]; rfl) (by decide) ?_
        refine lv_aload_n hx hb dX5_vector_130 rfl (lv_at hl 0 rfl) ?_
        refine va_get (D := G.1) (ci := 4) (v := .ref ra) (C := RX4) (T := TX4) (N := 4) hx hb hts hi_X5_vector_RX4 hown hK hV 0 rfl rfl 0 (by decide) (hts _ hw_X5_vector_f75) (fun _ h9 => h9) rfl dX5_vector_131 ?_
        refine xrd (xrunV (As := []) (rest := []) S (c_X1_tail l G ra va na v.1.1 v.1.2.1 v.1.2.2.1 v.1.2.2.2 hrl) (cwV 0 hts gX5_vector_X1_tail rfl rfl rfl (by decide +kernel) ⟨Nat.le_of_ble_eq_true rfl, Nat.le_of_ble_eq_true rfl⟩) hE hS hA 0 1 hR rfl rfl rfl hR rfl rfl hl.1 (Nat.le_of_ble_eq_true rfl) dX5_vector_134 ⟨Nat.le_of_ble_eq_true rfl, Nat.le_of_ble_eq_true rfl⟩) ?_
        exact xret_i hx hb hr hlk_ dX5_vector_137 (by rw [cvVec, hv2, oel_s, hw16]; rfl)
      · have hw16 : a2 = 8 := Int32.toInt_inj.mp (by rw [hx16, hz]; rfl)
        refine lv_tableIn (off := 122) (tgt := 138) hx hb dX5_vector_16 (by rw [hw16]; decide) (by rw [hw16]; decide) (by rw [hw16]; rfl) (by decide) ?_
        refine lv_aload_n hx hb dX5_vector_138 rfl (lv_at hl 0 rfl) ?_
        refine xrd (xrunV (As := []) (rest := []) S (c_X4_sum l G q2 ra v.2.1 v.2.2.1 v.2.2.2 va na v.1.1 v.1.2.1 v.1.2.2.1 v.1.2.2.2 (by omega) (by omega) (by omega)) (cwV 0 hts gX5_vector_X4_sum rfl rfl rfl (by decide +kernel) ⟨Nat.le_of_ble_eq_true rfl, Nat.le_of_ble_eq_true rfl⟩) hE hS hA 0 4 hV rfl rfl rfl (va_P.app ((hV.sub [0] rfl)) (hR.sub [0, 1, 2] rfl)) rfl rfl hl.1 (Nat.le_of_ble_eq_true rfl) dX5_vector_139 ⟨Nat.le_of_ble_eq_true rfl, Nat.le_of_ble_eq_true rfl⟩) ?_
        exact xret_i hx hb hr hlk_ dX5_vector_142 (by rw [cvVec, hv2, oel_s, hw16]; rfl)
      · have hw16 : a2 = 9 := Int32.toInt_inj.mp (by rw [hx16, hz]; rfl)
        refine lv_tableIn (off := 127) (tgt := 143) hx hb dX5_vector_16 (by rw [hw16]; decide) (by rw [hw16]; decide) (by rw [hw16]; rfl) (by decide) ?_
        refine lv_aload_n hx hb dX5_vector_143 rfl (lv_at hl 0 rfl) ?_
        refine xrd (xrunV (As := []) (rest := []) S (c_X4_greatest l G q2 ra v.2.1 v.2.2.1 v.2.2.2 va na v.1.1 v.1.2.1 v.1.2.2.1 v.1.2.2.2 (by omega) (by omega) (by omega)) (cwV 0 hts gX5_vector_X4_greatest rfl rfl rfl (by decide +kernel) ⟨Nat.le_of_ble_eq_true rfl, Nat.le_of_ble_eq_true rfl⟩) hE hS hA 0 4 hV rfl rfl rfl (va_P.app ((hV.sub [0] rfl)) (hR.sub [0, 1, 2] rfl)) rfl rfl hl.1 (Nat.le_of_ble_eq_true rfl) dX5_vector_144 ⟨Nat.le_of_ble_eq_true rfl, Nat.le_of_ble_eq_true rfl⟩) ?_
        exact xret_i hx hb hr hlk_ dX5_vector_147 (by rw [cvVec, hv2, oel_s, hw16]; rfl)
    · refine lv_tableOut (tgt := 148) hx hb dX5_vector_16 (by omega) (by decide) ?_
      refine lv_bipush (v := (-2)) hx hb dX5_vector_148 (by decide) ?_
      exact xret_i hx hb hr hlk_ dX5_vector_150 (by rw [cvVec, hv2, oel_s, cvVecK_d c_16])
