def rowsA (vs : Nat → Option Vw) (ed : Option Rw) (i : Nat) : Option Rw := if i < 24 then oel (vs i) none (fun w => some w.1) else ed
theorem stV.pr {G : xG} {B : List Nat} {vf : Nat → Option Nat} {vs : Nat → Option Vw} {er : Option Nat} {ed : Option Rw} {H : Heap} (h : stV G B vf vs H) (he : stE G B er ed H) : ∃ rr, vPR G vf er rr H ∧ vRS G B rr (rowsA vs ed) H := by
  have key : ∀ i : Nat, ∃ o : Option Nat, i < 24 → (vf i = none ∧ o = none ∧ vs i = none) ∨ ∃ q ra w f m v, vf i = some q ∧ o = some ra ∧ va_P G.1 vwCl [(q, .inr (4, [.ref ra, .int (nI w), .int (nI f), .int (nI m)]))] H ∧ vs i = some v ∧ isRow G B ra v.1 H := by
    intro i
    by_cases hi : i < 24
    · rcases h i hi with ⟨h1, h2⟩ | ⟨q, v, h1, h2, ra, h3, h4, h5⟩
      · exact ⟨none, fun _ => Or.inl ⟨h1, rfl, h2⟩⟩
      · exact ⟨some ra, fun _ => Or.inr ⟨q, ra, _, _, _, v, h1, rfl, h4, h2, h5⟩⟩
    · exact ⟨none, fun z => absurd z hi⟩
  obtain ⟨g, hg⟩ := Classical.axiomOfChoice key
  refine ⟨fun i => if i < 24 then g i else er, ⟨fun i hi => ?_, ?_⟩, fun i hi => ?_⟩
  · simp only [if_pos hi]
    rcases hg i hi with ⟨h1, h2, _⟩ | ⟨q, ra, w, f, m, v, h1, h2, h3, _, _⟩
    · exact Or.inl ⟨h1, h2⟩
    · exact Or.inr ⟨q, ra, w, f, m, h1, h2, h3⟩
  · show (if 24 < 24 then _ else _) = _
    rw [if_neg (by omega)]
  · show ((if i < 24 then g i else er) = none ∧ _) ∨ _
    unfold rowsA
    by_cases h24 : i < 24
    · rw [if_pos h24, if_pos h24]
      rcases hg i h24 with ⟨_, h2, h3⟩ | ⟨q, ra, w, f, m, v, _, h2, _, h4, h5⟩
      · exact Or.inl ⟨h2, by rw [h3]; rfl⟩
      · refine Or.inr ⟨ra, v.1, ?_, by rw [h4]; rfl, h5⟩
        show (if i < 24 then g i else er) = _
        rw [if_pos h24]; exact h2
    · rw [if_neg h24, if_neg h24]
      rcases he with ⟨h1, h2⟩ | ⟨q, r, h1, h2, h3⟩
      · exact Or.inl ⟨h1, h2⟩
      · refine Or.inr ⟨q, r, ?_, h2, h3⟩
        show (if i < 24 then g i else er) = _
        rw [if_neg h24]; exact h1
def manyA (vs : Nat → Option Vw) (i : Nat) : Nat := oel (vs i) 0 (fun w => w.2.2.2)
theorem stV.vm {G : xG} {B : List Nat} {vf : Nat → Option Nat} {vs : Nat → Option Vw} {H : Heap} (h : stV G B vf vs H) : vVM G vf (manyA vs) H := fun i hi => by
  unfold manyA
  rcases h i hi with ⟨h1, h2⟩ | ⟨q, v, h1, h2, ra, h3, h4, h5⟩
  · exact Or.inl ⟨h1, by rw [h2]; rfl⟩
  · exact Or.inr ⟨q, ra, _, _, h1, by rw [h2]; exact h4⟩
noncomputable def cvEdiK (X : Xs) (rw_ : Rw) (k : Int32) : Int32 :=
  if k = 0 then nI rw_.2.2.2 else if k = 1 then nI (sumN (fun z => bN (X.1.2.2.2.2 ≤ rw_.2.2.1 z)) 101) else if k = 2 then nI (sumN (fun z => bN (nI 0 ≤ rw_.2.2.1 z)) 101)
  else if k = 3 then nI (sumN (fun z => bN (nI 0 ≤ rw_.2.2.1 z)) 101) - nI (biN (rowsA X.1.1 X.1.2.2.2.1) 24 rw_.2.2.1) else nuI rw_.2.2.1 (cRI (rLv rw_.2.2.2)) (nI 0)
theorem cvEdiK_d {X : Xs} {rw_ : Rw} {k : Int32} (h : ¬ (0 ≤ k.toInt ∧ k.toInt ≤ 3)) : cvEdiK X rw_ k = nuI rw_.2.2.1 (cRI (rLv rw_.2.2.2)) (nI 0) := by
  unfold cvEdiK
  repeat' rw [if_neg (fun q => h (by rw [q]; decide))]
noncomputable def cvEdi (X : Xs) (k : Int32) : Int32 := if k < 0 ∨ nI 4 < k then -2 else oel X.1.2.2.2.1 (-4) (fun w => cvEdiK X w k)
noncomputable def cvCou (X : Xs) (k : Int32) : Int32 :=
  if k = 0 then nI X.1.2.1 else if k = 1 then nI (vLeft X.1.1) else if k = 2 then nI X.1.2.2.1 else if k = 3 then nI (sumN (biU (rowsA X.1.1 X.1.2.2.2.1)) 25)
  else if k = 4 then nI X.1.2.2.1 - nI (sumN (biU (rowsA X.1.1 X.1.2.2.2.1)) 25) else if k = 5 then bI (X.1.2.2.2.1 ≠ none) else if k = 6 then nI (sumN (manyA X.1.1) 24) else if k = 7 then nI X.2.2.2.2.1 else if k = 8 then nI X.2.2.2.2.2.2 else -2
theorem cvCou_d {X : Xs} {k : Int32} (h : ¬ (0 ≤ k.toInt ∧ k.toInt ≤ 8)) : cvCou X k = -2 := by
  unfold cvCou
  repeat' rw [if_neg (fun q => h (by rw [q]; decide))]

theorem hw_X5_edit_f10 : Cond.fieldLink RX5 10 "TailVectors" "now" "LTailVectors$State;" ∈ wsX5_edit := by decide +kernel
theorem hi_X5_edit_RX5 : ∀ w ∈ u_ws RX5 TX5 6, w ∈ wsX5_edit := by decide +kernel
theorem hw_X5_edit_f105 : Cond.fieldLink RX5 105 "TailVectors$State" "editRow" "LTailVectors$Row;" ∈ wsX5_edit := by decide +kernel
theorem hi_X5_edit_RX2 : ∀ w ∈ u_ws RX2 TX2 5, w ∈ wsX5_edit := by decide +kernel
theorem hw_X5_edit_f112 : Cond.fieldLink RX5 112 "TailVectors$Row" "length" "I" ∈ wsX5_edit := by decide +kernel
theorem hi_X5_edit_RX1 : ∀ w ∈ u_ws RX1 TX1 3, w ∈ wsX5_edit := by decide +kernel
theorem hw_X5_edit_f200 : Cond.fieldLink RX5 200 "TailVectors$State" "firstOwn" "I" ∈ wsX5_edit := by decide +kernel
set_option maxHeartbeats 4000000 in
set_option maxRecDepth 100000 in
theorem c_X5_edit (l : Launch) (G : xG) (B : List Nat) (t5 : Nat) (n0 : Nat) (nv : Nat) (sn : Nat) (sv : Nat) (hi : Nat) (ha : Nat) (s0 : Nat) (v0 : Nat) (s1 : Nat) (v1 : Nat) (s2 : Nat) (v2 : Nat) (s3 : Nat) (v3 : Nat) (tx : Nat) (tc : Nat) (tr : Nat) (tw : Nat) (tn : Nat) (X : Xs) (a1 : Int32) (hok : okX X) : Met l yX5_edit wsX5_edit ({ frames := 4, cells := 0, slots := 0, locals := 93 } : Room) (xPc G [.ref t5, .int a1] (fun H => tvI G B t5 n0 nv sn sv hi ha s0 v0 s1 v1 s2 v2 s3 v3 tx tc tr tw tn X H)) (k2_QcV (.int (cvEdi X a1))) 0 0 (fun _ => False) := by
  refine xMet (cc := cX5_edit) (nL := 3) (ret := (some (.int))) (by decide) rfl (Nat.le_of_ble_eq_true rfl) ?_
  intro p e s m below meth c S hr hlk_ hnm hE hP ls hl
  obtain ⟨hx, hb, hml, hown, hts⟩ := id S
  have hown : s.vm.findClass RX5 = some m.cls := hown
  have hK := hE.1
  have hS : va_S (fun _ : Nat => False) s.heap s.heap [] := va_S.rf
  have hA : ∀ q, (fun _ : Nat => False) q → xB0 G ≤ q := fun _ h => h.elim
  obtain ⟨vf, er, vfs, ers, hc, r, tfv, tfn, tfl, hP, ⟨hNV, hNE⟩, ⟨hSV, hSE⟩, hH⟩ := hP
  obtain ⟨hev24, hm4, htl, hch, hhs, hokv, hoke⟩ := id hok
  have hP : va_P G.1 vwCl [(t5, .inr (5, [.ref n0, .ref sn, .int (nI X.2.2.1), .ref hi, .ref tx, .ref tr])), (n0, .inr (2, [.ref nv, .int (nI X.1.2.1), .int (nI X.1.2.2.1), va_rf er, .int X.1.2.2.2.2])), (nv, .inl (xcV G, 24, .inr (.inr (.inr (.inr vf))))), (sn, .inr (2, [.ref sv, .int (nI X.2.1.2.1), .int (nI X.2.1.2.2.1), va_rf ers, .int X.2.1.2.2.2.2])), (sv, .inl (xcV G, 24, .inr (.inr (.inr (.inr vfs))))), (hi, .inr (0, [.ref ha, .int (nI X.2.2.2.2.1)])), (ha, .inl (xcS G, 4, .inr (.inr (.inr (.inr (hfF s0 s1 s2 s3 r)))))), (s0, .inr (2, [.ref v0, .int (nI ((hc 0).2.1)), .int (nI ((hc 0).2.2.1)), va_rf ((hc 0).2.2.2.1), .int ((hc 0).2.2.2.2)])), (v0, .inl (xcV G, 24, .inr (.inr (.inr (.inr ((hc 0).1)))))), (s1, .inr (2, [.ref v1, .int (nI ((hc 1).2.1)), .int (nI ((hc 1).2.2.1)), va_rf ((hc 1).2.2.2.1), .int ((hc 1).2.2.2.2)])), (v1, .inl (xcV G, 24, .inr (.inr (.inr (.inr ((hc 1).1)))))), (s2, .inr (2, [.ref v2, .int (nI ((hc 2).2.1)), .int (nI ((hc 2).2.2.1)), va_rf ((hc 2).2.2.2.1), .int ((hc 2).2.2.2.2)])), (v2, .inl (xcV G, 24, .inr (.inr (.inr (.inr ((hc 2).1)))))), (s3, .inr (2, [.ref v3, .int (nI ((hc 3).2.1)), .int (nI ((hc 3).2.2.1)), va_rf ((hc 3).2.2.2.1), .int ((hc 3).2.2.2.2)])), (v3, .inl (xcV G, 24, .inr (.inr (.inr (.inr ((hc 3).1)))))), (tx, .inr (3, [.ref tc, .int (nI X.2.2.2.2.2.2)])), (tc, .inl (xcC G, 60, .inl (nf X.2.2.2.2.2.1))), (tr, .inr (1, [.ref tw, .ref tn, .int (nI tfl)])), (tw, .inl (xcI G, 300, .inl tfv)), (tn, .inl (xcI G, 101, .inl tfn))] s.heap := hP
  have hl : lv_has ls 3 [(0, .ref t5), (1, .int a1)] := hl
  refine lv_iload_n hx hb dX5_edit_0 rfl (lv_at hl 1 rfl) ?_
  refine lv_if_lt (tgt := 9) hx hb dX5_edit_1 (by decide) (fun c_1 => ?_) (fun c_1 => ?_)
  · refine lv_bipush (v := (-2)) hx hb dX5_edit_9 (by decide) ?_
    exact xret_i hx hb hr hlk_ dX5_edit_11 (by rw [cvEdi, if_pos (Or.inl c_1)])
  · refine lv_iload_n hx hb dX5_edit_4 rfl (lv_at hl 1 rfl) ?_
    refine lv_iconst (v := nI 4) hx hb dX5_edit_5 rfl ?_
    refine lv_icmp_le (tgt := 12) hx hb dX5_edit_6 (by decide) (fun c_6 => ?_) (fun c_6 => ?_)
    · have hk04 : ¬ (a1 < 0 ∨ nI 4 < a1) := fun z => z.elim c_1 (fun y => le_ge32 y c_6)
      refine lv_aload_n hx hb dX5_edit_12 rfl (lv_at hl 0 rfl) ?_
      refine va_get (D := G.1) (ci := 5) (v := .ref n0) (C := RX5) (T := TX5) (N := 6) hx hb hts hi_X5_edit_RX5 hown hK hP 0 rfl rfl 0 (by decide) (hts _ hw_X5_edit_f10) (fun _ h9 => h9) rfl dX5_edit_13 ?_
      refine va_get (D := G.1) (ci := 2) (v := va_rf er) (C := RX2) (T := TX2) (N := 5) hx hb hts hi_X5_edit_RX2 hown hK hP 1 rfl rfl 3 (by decide) (hts _ hw_X5_edit_f105) (fun _ h9 => h9) rfl dX5_edit_16 ?_
      rcases oe : er with _ | eq_
      · refine W.eq (g2 := F0 m 19 ls [.null]) rfl ?_
        have he2 : X.1.2.2.2.1 = none := hNE.at.elim (fun z => z.2) (fun ⟨_, _, z, _⟩ => by rw [oe] at z; cases z)
        refine lv_astore_nN (lv' := [(2, .null), (0, .ref t5), (1, .int a1)]) hx hb dX5_edit_19 rfl hl (by decide) rfl (fun ls hl => ?_)
        refine lv_aload_nN hx hb dX5_edit_20 rfl (lv_at hl 0 rfl) ?_
        refine lv_ifnonnullN hx hb dX5_edit_21 ?_
        refine lv_bipush (v := (-4)) hx hb dX5_edit_24 (by decide) ?_
        exact xret_i hx hb hr hlk_ dX5_edit_26 (by rw [cvEdi, if_neg hk04, he2, oel_n])
      · refine W.eq (g2 := F0 m 19 ls [.ref eq_]) rfl ?_
        obtain ⟨e2, rw_, he1, he2, va, na, hb3, hR⟩ := hNE.at.resolve_left (fun z => by rw [z.1] at oe; cases oe)
        obtain rfl : e2 = eq_ := Option.some.inj (he1.symm.trans oe)
        obtain ⟨hrl, hrc, hro⟩ := hoke rw_ he2
        refine lv_astore_n (lv' := [(2, .ref e2), (0, .ref t5), (1, .int a1)]) hx hb dX5_edit_19 rfl hl (by decide) rfl (fun ls hl => ?_)
        refine lv_aload_n hx hb dX5_edit_20 rfl (lv_at hl 0 rfl) ?_
        refine lv_ifnonnull (tgt := 27) hx hb dX5_edit_21 (by decide) ?_
        have eW : cvEdi X a1 = cvEdiK X rw_ a1 := by rw [cvEdi, if_neg hk04, he2, oel_s]
        refine lv_iload_n hx hb dX5_edit_27 rfl (lv_at hl 2 rfl) ?_
        by_cases c_28 : 0 ≤ (a1).toInt ∧ (a1).toInt ≤ 3
        · obtain ⟨j28, hj28⟩ : ∃ j : Nat, j = (a1).toInt.toNat := ⟨_, rfl⟩
          have hx28 : (a1).toInt = (j28 : Int) + 0 := by omega
          rcases (show j28 = 0 ∨ j28 = 1 ∨ j28 = 2 ∨ j28 = 3 by omega) with hz | hz | hz | hz
          · have hw28 : a1 = 0 := Int32.toInt_inj.mp (by rw [hx28, hz]; rfl)
            refine lv_tableIn (off := 32) (tgt := 60) hx hb dX5_edit_28 (by rw [hw28]; decide) (by rw [hw28]; decide) (by rw [hw28]; rfl) (by decide) ?_
            refine lv_aload_n hx hb dX5_edit_60 rfl (lv_at hl 0 rfl) ?_
            refine va_get (D := G.1) (ci := 1) (v := .int (nI rw_.2.2.2)) (C := RX1) (T := TX1) (N := 3) hx hb hts hi_X5_edit_RX1 hown hK hR 0 rfl rfl 2 (by decide) (hts _ hw_X5_edit_f112) (fun _ h9 => h9) rfl dX5_edit_61 ?_
            exact xret_i hx hb hr hlk_ dX5_edit_64 (by rw [eW, hw28]; rfl)
          · have hw28 : a1 = 1 := Int32.toInt_inj.mp (by rw [hx28, hz]; rfl)
            refine lv_tableIn (off := 37) (tgt := 65) hx hb dX5_edit_28 (by rw [hw28]; decide) (by rw [hw28]; decide) (by rw [hw28]; rfl) (by decide) ?_
            refine lv_aload_n hx hb dX5_edit_65 rfl (lv_at hl 0 rfl) ?_
            refine lv_aload_n hx hb dX5_edit_66 rfl (lv_at hl 1 rfl) ?_
            refine va_get (D := G.1) (ci := 5) (v := .ref n0) (C := RX5) (T := TX5) (N := 6) hx hb hts hi_X5_edit_RX5 hown hK hP 0 rfl rfl 0 (by decide) (hts _ hw_X5_edit_f10) (fun _ h9 => h9) rfl dX5_edit_67 ?_
            refine va_get (D := G.1) (ci := 2) (v := .int X.1.2.2.2.2) (C := RX2) (T := TX2) (N := 5) hx hb hts hi_X5_edit_RX2 hown hK hP 1 rfl rfl 4 (by decide) (hts _ hw_X5_edit_f200) (fun _ h9 => h9) rfl dX5_edit_70 ?_
            refine xrd (xrunV (As := [.int X.1.2.2.2.2]) (rest := []) S (c_X1_blocksFrom l G e2 va na rw_.1 rw_.2.1 rw_.2.2.1 rw_.2.2.2 X.1.2.2.2.2 ) (cwV 1 hts gX5_edit_X1_blocksFrom rfl rfl rfl (by decide +kernel) ⟨Nat.le_of_ble_eq_true rfl, Nat.le_of_ble_eq_true rfl⟩) hE hS hA 0 1 hR rfl rfl rfl hR rfl rfl hl.1 (Nat.le_of_ble_eq_true rfl) dX5_edit_73 ⟨Nat.le_of_ble_eq_true rfl, Nat.le_of_ble_eq_true rfl⟩) ?_
            exact xret_i hx hb hr hlk_ dX5_edit_76 (by rw [eW, hw28]; rfl)
          · have hw28 : a1 = 2 := Int32.toInt_inj.mp (by rw [hx28, hz]; rfl)
            refine lv_tableIn (off := 49) (tgt := 77) hx hb dX5_edit_28 (by rw [hw28]; decide) (by rw [hw28]; decide) (by rw [hw28]; rfl) (by decide) ?_
            refine lv_aload_n hx hb dX5_edit_77 rfl (lv_at hl 0 rfl) ?_
            refine xrd (xrunV (As := []) (rest := []) S (c_X1_blocks l G e2 va na rw_.1 rw_.2.1 rw_.2.2.1 rw_.2.2.2 ) (cwV 0 hts gX5_edit_X1_blocks rfl rfl rfl (by decide +kernel) ⟨Nat.le_of_ble_eq_true rfl, Nat.le_of_ble_eq_true rfl⟩) hE hS hA 0 1 hR rfl rfl rfl hR rfl rfl hl.1 (Nat.le_of_ble_eq_true rfl) dX5_edit_78 ⟨Nat.le_of_ble_eq_true rfl, Nat.le_of_ble_eq_true rfl⟩) ?_
            exact xret_i hx hb hr hlk_ dX5_edit_81 (by rw [eW, hw28]; rfl)
          · have hw28 : a1 = 3 := Int32.toInt_inj.mp (by rw [hx28, hz]; rfl)
            refine lv_tableIn (off := 54) (tgt := 82) hx hb dX5_edit_28 (by rw [hw28]; decide) (by rw [hw28]; decide) (by rw [hw28]; rfl) (by decide) ?_
            refine lv_aload_n hx hb dX5_edit_82 rfl (lv_at hl 0 rfl) ?_
            refine xrd (xrunV (As := []) (rest := []) S (c_X1_blocks l G e2 va na rw_.1 rw_.2.1 rw_.2.2.1 rw_.2.2.2 ) (cwV 0 hts gX5_edit_X1_blocks rfl rfl rfl (by decide +kernel) ⟨Nat.le_of_ble_eq_true rfl, Nat.le_of_ble_eq_true rfl⟩) hE hS hA 0 1 hR rfl rfl rfl hR rfl rfl hl.1 (Nat.le_of_ble_eq_true rfl) dX5_edit_83 ⟨Nat.le_of_ble_eq_true rfl, Nat.le_of_ble_eq_true rfl⟩) ?_
            refine lv_aload_n hx hb dX5_edit_86 rfl (lv_at hl 1 rfl) ?_
            refine va_get (D := G.1) (ci := 5) (v := .ref n0) (C := RX5) (T := TX5) (N := 6) hx hb hts hi_X5_edit_RX5 hown hK hP 0 rfl rfl 0 (by decide) (hts _ hw_X5_edit_f10) (fun _ h9 => h9) rfl dX5_edit_87 ?_
            refine lv_bipush (v := nI 24) hx hb dX5_edit_90 (by decide) ?_
            refine lv_aload_n hx hb dX5_edit_92 rfl (lv_at hl 0 rfl) ?_
            obtain ⟨rr, hPR, hRS⟩ := hNV.pr hNE
            refine xrd (xrunV (As := [.int (nI 24), .ref e2]) (rest := [.int (nI (sumN (fun z => bN (nI 0 ≤ rw_.2.2.1 z)) 101))]) S (c_X2_blocksNotIn l G n0 nv vf X.1.2.1 X.1.2.2.1 er X.1.2.2.2.2 rr B (rowsA X.1.1 X.1.2.2.2.1) 24 e2 va na rw_ (by omega)) (cwV 2 hts gX5_edit_X2_blocksNotIn rfl rfl rfl (by decide +kernel) ⟨Nat.le_of_ble_eq_true rfl, Nat.le_of_ble_eq_true rfl⟩) hE hS hA 1 2 hP rfl rfl rfl ⟨hP.sub [1, 2] rfl, hPR, hRS, hR⟩ rfl rfl hl.1 (Nat.le_of_ble_eq_true rfl) dX5_edit_93 ⟨Nat.le_of_ble_eq_true rfl, Nat.le_of_ble_eq_true rfl⟩) ?_
            refine lv_isub hx hb dX5_edit_96 ?_
            exact xret_i hx hb hr hlk_ dX5_edit_97 (by rw [eW, hw28]; rfl)
        · refine lv_tableOut (tgt := 98) hx hb dX5_edit_28 (by omega) (by decide) ?_
          refine lv_aload_n hx hb dX5_edit_98 rfl (lv_at hl 0 rfl) ?_
          refine lv_aload_n hx hb dX5_edit_99 rfl (lv_at hl 0 rfl) ?_
          refine xrd (xrunV (As := []) (rest := [.ref e2]) S (c_X1_leaves l G e2 va na rw_.1 rw_.2.1 rw_.2.2.1 rw_.2.2.2 hrl) (cwV 0 hts gX5_edit_X1_leaves rfl rfl rfl (by decide +kernel) ⟨Nat.le_of_ble_eq_true rfl, Nat.le_of_ble_eq_true rfl⟩) hE hS hA 0 1 hR rfl rfl rfl hR rfl rfl hl.1 (Nat.le_of_ble_eq_true rfl) dX5_edit_100 ⟨Nat.le_of_ble_eq_true rfl, Nat.le_of_ble_eq_true rfl⟩) ?_
          refine xrd (xrunS (As := [.int (nI (rLv rw_.2.2.2))]) (rest := [.ref e2]) S (c_X5_rootLevel_n l G (rLv rw_.2.2.2) (by have := rLv_le hrl; omega)) (va_cwS 1 hts gX5_edit_X5_rootLevel rfl rfl rfl (by decide +kernel) ⟨Nat.le_of_ble_eq_true rfl, Nat.le_of_ble_eq_true rfl⟩) hE hS hA trivial rfl rfl hl.1 (Nat.le_of_ble_eq_true rfl) dX5_edit_103 ⟨Nat.le_of_ble_eq_true rfl, Nat.le_of_ble_eq_true rfl⟩) ?_
          refine lv_iconst (v := nI 0) hx hb dX5_edit_106 rfl ?_
          refine xrd (xrunV (As := [.int (cRI (rLv rw_.2.2.2)), .int (nI 0)]) (rest := []) S (c_X1_numberAt l G e2 va na rw_.1 rw_.2.1 rw_.2.2.1 rw_.2.2.2 (cRI (rLv rw_.2.2.2)) (nI 0) ) (cwV 2 hts gX5_edit_X1_numberAt rfl rfl rfl (by decide +kernel) ⟨Nat.le_of_ble_eq_true rfl, Nat.le_of_ble_eq_true rfl⟩) hE hS hA 0 1 hR rfl rfl rfl hR rfl rfl hl.1 (Nat.le_of_ble_eq_true rfl) dX5_edit_107 ⟨Nat.le_of_ble_eq_true rfl, Nat.le_of_ble_eq_true rfl⟩) ?_
          exact xret_i hx hb hr hlk_ dX5_edit_110 (by rw [eW, cvEdiK_d c_28])
    · refine lv_bipush (v := (-2)) hx hb dX5_edit_9 (by decide) ?_
      exact xret_i hx hb hr hlk_ dX5_edit_11 (by rw [cvEdi, if_pos (Or.inr (Int32.not_le.mp c_6))])

theorem hw_X5_count_f10 : Cond.fieldLink RX5 10 "TailVectors" "now" "LTailVectors$State;" ∈ wsX5_count := by decide +kernel
theorem hi_X5_count_RX5 : ∀ w ∈ u_ws RX5 TX5 6, w ∈ wsX5_count := by decide +kernel
theorem hw_X5_count_f210 : Cond.fieldLink RX5 210 "TailVectors$State" "ever" "I" ∈ wsX5_count := by decide +kernel
theorem hi_X5_count_RX2 : ∀ w ∈ u_ws RX2 TX2 5, w ∈ wsX5_count := by decide +kernel
theorem hw_X5_count_f152 : Cond.fieldLink RX5 152 "TailVectors$State" "made" "I" ∈ wsX5_count := by decide +kernel
theorem hw_X5_count_f105 : Cond.fieldLink RX5 105 "TailVectors$State" "editRow" "LTailVectors$Row;" ∈ wsX5_count := by decide +kernel
theorem hw_X5_count_f26 : Cond.fieldLink RX5 26 "TailVectors" "history" "LTailVectors$History;" ∈ wsX5_count := by decide +kernel
theorem hw_X5_count_f145 : Cond.fieldLink RX5 145 "TailVectors$History" "many" "I" ∈ wsX5_count := by decide +kernel
theorem hi_X5_count_RX0 : ∀ w ∈ u_ws RX0 TX0 2, w ∈ wsX5_count := by decide +kernel
theorem hw_X5_count_f33 : Cond.fieldLink RX5 33 "TailVectors" "text" "LTailVectors$Text;" ∈ wsX5_count := by decide +kernel
theorem hw_X5_count_f141 : Cond.fieldLink RX5 141 "TailVectors$Text" "length" "I" ∈ wsX5_count := by decide +kernel
theorem hi_X5_count_RX3 : ∀ w ∈ u_ws RX3 TX3 2, w ∈ wsX5_count := by decide +kernel
set_option maxHeartbeats 4000000 in
set_option maxRecDepth 100000 in
theorem c_X5_count (l : Launch) (G : xG) (B : List Nat) (t5 : Nat) (n0 : Nat) (nv : Nat) (sn : Nat) (sv : Nat) (hi : Nat) (ha : Nat) (s0 : Nat) (v0 : Nat) (s1 : Nat) (v1 : Nat) (s2 : Nat) (v2 : Nat) (s3 : Nat) (v3 : Nat) (tx : Nat) (tc : Nat) (tr : Nat) (tw : Nat) (tn : Nat) (X : Xs) (a1 : Int32) (hok : okX X) : Met l yX5_count wsX5_count ({ frames := 5, cells := 0, slots := 0, locals := 116 } : Room) (xPc G [.ref t5, .int a1] (fun H => tvI G B t5 n0 nv sn sv hi ha s0 v0 s1 v1 s2 v2 s3 v3 tx tc tr tw tn X H)) (k2_QcV (.int (cvCou X a1))) 0 0 (fun _ => False) := by
  refine xMet (cc := cX5_count) (nL := 2) (ret := (some (.int))) (by decide) rfl (Nat.le_of_ble_eq_true rfl) ?_
  intro p e s m below meth c S hr hlk_ hnm hE hP ls hl
  obtain ⟨hx, hb, hml, hown, hts⟩ := id S
  have hown : s.vm.findClass RX5 = some m.cls := hown
  have hK := hE.1
  have hS : va_S (fun _ : Nat => False) s.heap s.heap [] := va_S.rf
  have hA : ∀ q, (fun _ : Nat => False) q → xB0 G ≤ q := fun _ h => h.elim
  obtain ⟨vf, er, vfs, ers, hc, r, tfv, tfn, tfl, hP, ⟨hNV, hNE⟩, ⟨hSV, hSE⟩, hH⟩ := hP
  obtain ⟨hev24, hm4, htl, hch, hhs, hokv, hoke⟩ := id hok
  have hP : va_P G.1 vwCl [(t5, .inr (5, [.ref n0, .ref sn, .int (nI X.2.2.1), .ref hi, .ref tx, .ref tr])), (n0, .inr (2, [.ref nv, .int (nI X.1.2.1), .int (nI X.1.2.2.1), va_rf er, .int X.1.2.2.2.2])), (nv, .inl (xcV G, 24, .inr (.inr (.inr (.inr vf))))), (sn, .inr (2, [.ref sv, .int (nI X.2.1.2.1), .int (nI X.2.1.2.2.1), va_rf ers, .int X.2.1.2.2.2.2])), (sv, .inl (xcV G, 24, .inr (.inr (.inr (.inr vfs))))), (hi, .inr (0, [.ref ha, .int (nI X.2.2.2.2.1)])), (ha, .inl (xcS G, 4, .inr (.inr (.inr (.inr (hfF s0 s1 s2 s3 r)))))), (s0, .inr (2, [.ref v0, .int (nI ((hc 0).2.1)), .int (nI ((hc 0).2.2.1)), va_rf ((hc 0).2.2.2.1), .int ((hc 0).2.2.2.2)])), (v0, .inl (xcV G, 24, .inr (.inr (.inr (.inr ((hc 0).1)))))), (s1, .inr (2, [.ref v1, .int (nI ((hc 1).2.1)), .int (nI ((hc 1).2.2.1)), va_rf ((hc 1).2.2.2.1), .int ((hc 1).2.2.2.2)])), (v1, .inl (xcV G, 24, .inr (.inr (.inr (.inr ((hc 1).1)))))), (s2, .inr (2, [.ref v2, .int (nI ((hc 2).2.1)), .int (nI ((hc 2).2.2.1)), va_rf ((hc 2).2.2.2.1), .int ((hc 2).2.2.2.2)])), (v2, .inl (xcV G, 24, .inr (.inr (.inr (.inr ((hc 2).1)))))), (s3, .inr (2, [.ref v3, .int (nI ((hc 3).2.1)), .int (nI ((hc 3).2.2.1)), va_rf ((hc 3).2.2.2.1), .int ((hc 3).2.2.2.2)])), (v3, .inl (xcV G, 24, .inr (.inr (.inr (.inr ((hc 3).1)))))), (tx, .inr (3, [.ref tc, .int (nI X.2.2.2.2.2.2)])), (tc, .inl (xcC G, 60, .inl (nf X.2.2.2.2.2.1))), (tr, .inr (1, [.ref tw, .ref tn, .int (nI tfl)])), (tw, .inl (xcI G, 300, .inl tfv)), (tn, .inl (xcI G, 101, .inl tfn))] s.heap := hP
  have hl : lv_has ls 2 [(0, .ref t5), (1, .int a1)] := hl
  refine lv_iload_n hx hb dX5_count_0 rfl (lv_at hl 1 rfl) ?_
  by_cases c_1 : 0 ≤ (a1).toInt ∧ (a1).toInt ≤ 8
  · obtain ⟨j1, hj1⟩ : ∃ j : Nat, j = (a1).toInt.toNat := ⟨_, rfl⟩
    have hx1 : (a1).toInt = (j1 : Int) + 0 := by omega
    rcases (show j1 = 0 ∨ j1 = 1 ∨ j1 = 2 ∨ j1 = 3 ∨ j1 = 4 ∨ j1 = 5 ∨ j1 = 6 ∨ j1 = 7 ∨ j1 = 8 by omega) with hz | hz | hz | hz | hz | hz | hz | hz | hz
    · have hw1 : a1 = 0 := Int32.toInt_inj.mp (by rw [hx1, hz]; rfl)
      refine lv_tableIn (off := 51) (tgt := 52) hx hb dX5_count_1 (by rw [hw1]; decide) (by rw [hw1]; decide) (by rw [hw1]; rfl) (by decide) ?_
      refine lv_aload_n hx hb dX5_count_52 rfl (lv_at hl 0 rfl) ?_
      refine va_get (D := G.1) (ci := 5) (v := .ref n0) (C := RX5) (T := TX5) (N := 6) hx hb hts hi_X5_count_RX5 hown hK hP 0 rfl rfl 0 (by decide) (hts _ hw_X5_count_f10) (fun _ h9 => h9) rfl dX5_count_53 ?_
      refine va_get (D := G.1) (ci := 2) (v := .int (nI X.1.2.1)) (C := RX2) (T := TX2) (N := 5) hx hb hts hi_X5_count_RX2 hown hK hP 1 rfl rfl 1 (by decide) (hts _ hw_X5_count_f210) (fun _ h9 => h9) rfl dX5_count_56 ?_
      exact xret_i hx hb hr hlk_ dX5_count_59 (by rw [cvCou, hw1]; rfl)
    · have hw1 : a1 = 1 := Int32.toInt_inj.mp (by rw [hx1, hz]; rfl)
      refine lv_tableIn (off := 59) (tgt := 60) hx hb dX5_count_1 (by rw [hw1]; decide) (by rw [hw1]; decide) (by rw [hw1]; rfl) (by decide) ?_
      refine lv_aload_n hx hb dX5_count_60 rfl (lv_at hl 0 rfl) ?_
      refine va_get (D := G.1) (ci := 5) (v := .ref n0) (C := RX5) (T := TX5) (N := 6) hx hb hts hi_X5_count_RX5 hown hK hP 0 rfl rfl 0 (by decide) (hts _ hw_X5_count_f10) (fun _ h9 => h9) rfl dX5_count_61 ?_
      refine xrd (xrunV (As := []) (rest := []) S (c_X2_viewsLeft l G n0 nv vf X.1.2.1 X.1.2.2.1 er X.1.2.2.2.2 ) (cwV 0 hts gX5_count_X2_viewsLeft rfl rfl rfl (by decide +kernel) ⟨Nat.le_of_ble_eq_true rfl, Nat.le_of_ble_eq_true rfl⟩) hE hS hA 1 2 hP rfl rfl rfl (hP.sub [1, 2] rfl) rfl rfl hl.1 (Nat.le_of_ble_eq_true rfl) dX5_count_64 ⟨Nat.le_of_ble_eq_true rfl, Nat.le_of_ble_eq_true rfl⟩) ?_
      refine n_top (y := nI (vLeft X.1.1)) (by rw [hNV.left]) ?_
      exact xret_i hx hb hr hlk_ dX5_count_67 (by rw [cvCou, hw1]; rfl)
    · have hw1 : a1 = 2 := Int32.toInt_inj.mp (by rw [hx1, hz]; rfl)
      refine lv_tableIn (off := 67) (tgt := 68) hx hb dX5_count_1 (by rw [hw1]; decide) (by rw [hw1]; decide) (by rw [hw1]; rfl) (by decide) ?_
      refine lv_aload_n hx hb dX5_count_68 rfl (lv_at hl 0 rfl) ?_
      refine va_get (D := G.1) (ci := 5) (v := .ref n0) (C := RX5) (T := TX5) (N := 6) hx hb hts hi_X5_count_RX5 hown hK hP 0 rfl rfl 0 (by decide) (hts _ hw_X5_count_f10) (fun _ h9 => h9) rfl dX5_count_69 ?_
      refine va_get (D := G.1) (ci := 2) (v := .int (nI X.1.2.2.1)) (C := RX2) (T := TX2) (N := 5) hx hb hts hi_X5_count_RX2 hown hK hP 1 rfl rfl 2 (by decide) (hts _ hw_X5_count_f152) (fun _ h9 => h9) rfl dX5_count_72 ?_
      exact xret_i hx hb hr hlk_ dX5_count_75 (by rw [cvCou, hw1]; rfl)
    · have hw1 : a1 = 3 := Int32.toInt_inj.mp (by rw [hx1, hz]; rfl)
      refine lv_tableIn (off := 75) (tgt := 76) hx hb dX5_count_1 (by rw [hw1]; decide) (by rw [hw1]; decide) (by rw [hw1]; rfl) (by decide) ?_
      refine lv_aload_n hx hb dX5_count_76 rfl (lv_at hl 0 rfl) ?_
      refine va_get (D := G.1) (ci := 5) (v := .ref n0) (C := RX5) (T := TX5) (N := 6) hx hb hts hi_X5_count_RX5 hown hK hP 0 rfl rfl 0 (by decide) (hts _ hw_X5_count_f10) (fun _ h9 => h9) rfl dX5_count_77 ?_
      obtain ⟨rr, hPR, hRS⟩ := hNV.pr hNE
      refine xrd (xrunV (As := []) (rest := []) S (c_X2_blocksInUse l G n0 nv vf X.1.2.1 X.1.2.2.1 er X.1.2.2.2.2 rr B (rowsA X.1.1 X.1.2.2.2.1) ) (cwV 0 hts gX5_count_X2_blocksInUse rfl rfl rfl (by decide +kernel) ⟨Nat.le_of_ble_eq_true rfl, Nat.le_of_ble_eq_true rfl⟩) hE hS hA 1 2 hP rfl rfl rfl ⟨hP.sub [1, 2] rfl, hPR, hRS⟩ rfl rfl hl.1 (Nat.le_of_ble_eq_true rfl) dX5_count_80 ⟨Nat.le_of_ble_eq_true rfl, Nat.le_of_ble_eq_true rfl⟩) ?_
      exact xret_i hx hb hr hlk_ dX5_count_83 (by rw [cvCou, hw1]; rfl)
    · have hw1 : a1 = 4 := Int32.toInt_inj.mp (by rw [hx1, hz]; rfl)
      refine lv_tableIn (off := 83) (tgt := 84) hx hb dX5_count_1 (by rw [hw1]; decide) (by rw [hw1]; decide) (by rw [hw1]; rfl) (by decide) ?_
      refine lv_aload_n hx hb dX5_count_84 rfl (lv_at hl 0 rfl) ?_
      refine va_get (D := G.1) (ci := 5) (v := .ref n0) (C := RX5) (T := TX5) (N := 6) hx hb hts hi_X5_count_RX5 hown hK hP 0 rfl rfl 0 (by decide) (hts _ hw_X5_count_f10) (fun _ h9 => h9) rfl dX5_count_85 ?_
      refine va_get (D := G.1) (ci := 2) (v := .int (nI X.1.2.2.1)) (C := RX2) (T := TX2) (N := 5) hx hb hts hi_X5_count_RX2 hown hK hP 1 rfl rfl 2 (by decide) (hts _ hw_X5_count_f152) (fun _ h9 => h9) rfl dX5_count_88 ?_
      refine lv_aload_n hx hb dX5_count_91 rfl (lv_at hl 0 rfl) ?_
      refine va_get (D := G.1) (ci := 5) (v := .ref n0) (C := RX5) (T := TX5) (N := 6) hx hb hts hi_X5_count_RX5 hown hK hP 0 rfl rfl 0 (by decide) (hts _ hw_X5_count_f10) (fun _ h9 => h9) rfl dX5_count_92 ?_
      obtain ⟨rr, hPR, hRS⟩ := hNV.pr hNE
      refine xrd (xrunV (As := []) (rest := [.int (nI X.1.2.2.1)]) S (c_X2_blocksInUse l G n0 nv vf X.1.2.1 X.1.2.2.1 er X.1.2.2.2.2 rr B (rowsA X.1.1 X.1.2.2.2.1) ) (cwV 0 hts gX5_count_X2_blocksInUse rfl rfl rfl (by decide +kernel) ⟨Nat.le_of_ble_eq_true rfl, Nat.le_of_ble_eq_true rfl⟩) hE hS hA 1 2 hP rfl rfl rfl ⟨hP.sub [1, 2] rfl, hPR, hRS⟩ rfl rfl hl.1 (Nat.le_of_ble_eq_true rfl) dX5_count_95 ⟨Nat.le_of_ble_eq_true rfl, Nat.le_of_ble_eq_true rfl⟩) ?_
      refine lv_isub hx hb dX5_count_98 ?_
      exact xret_i hx hb hr hlk_ dX5_count_99 (by rw [cvCou, hw1]; rfl)
    · have hw1 : a1 = 5 := Int32.toInt_inj.mp (by rw [hx1, hz]; rfl)
      refine lv_tableIn (off := 99) (tgt := 100) hx hb dX5_count_1 (by rw [hw1]; decide) (by rw [hw1]; decide) (by rw [hw1]; rfl) (by decide) ?_
      refine lv_aload_n hx hb dX5_count_100 rfl (lv_at hl 0 rfl) ?_
      refine va_get (D := G.1) (ci := 5) (v := .ref n0) (C := RX5) (T := TX5) (N := 6) hx hb hts hi_X5_count_RX5 hown hK hP 0 rfl rfl 0 (by decide) (hts _ hw_X5_count_f10) (fun _ h9 => h9) rfl dX5_count_101 ?_
      refine va_get (D := G.1) (ci := 2) (v := va_rf er) (C := RX2) (T := TX2) (N := 5) hx hb hts hi_X5_count_RX2 hown hK hP 1 rfl rfl 3 (by decide) (hts _ hw_X5_count_f105) (fun _ h9 => h9) rfl dX5_count_104 ?_
      rcases oe : er with _ | eq_
      · refine W.eq (g2 := F0 m 107 ls [.null]) rfl ?_
        have he2 : X.1.2.2.2.1 = none := hNE.at.elim (fun z => z.2) (fun ⟨_, _, z, _⟩ => by rw [oe] at z; cases z)
        refine lv_ifnullN (tgt := 114) hx hb dX5_count_107 (by decide) ?_
        refine lv_iconst (v := nI 0) hx hb dX5_count_114 rfl ?_
        exact xret_i hx hb hr hlk_ dX5_count_115 (by rw [hw1]; exact xb0 (fun z => z he2))
      · refine W.eq (g2 := F0 m 107 ls [.ref eq_]) rfl ?_
        obtain ⟨e2, rw_, he1, he2, va, na, hb3, hR⟩ := hNE.at.resolve_left (fun z => by rw [z.1] at oe; cases oe)
        obtain rfl : e2 = eq_ := Option.some.inj (he1.symm.trans oe)
        obtain ⟨hrl, hrc, hro⟩ := hoke rw_ he2
        refine lv_ifnull hx hb dX5_count_107 ?_
        refine lv_iconst (v := nI 1) hx hb dX5_count_110 rfl ?_
        refine lv_goto (tgt := 115) hx hb dX5_count_111 (by decide) ?_
        exact xret_i hx hb hr hlk_ dX5_count_115 (by rw [hw1]; exact xb1 (fun z => by rw [he2] at z; cases z))
    · have hw1 : a1 = 6 := Int32.toInt_inj.mp (by rw [hx1, hz]; rfl)
      refine lv_tableIn (off := 115) (tgt := 116) hx hb dX5_count_1 (by rw [hw1]; decide) (by rw [hw1]; decide) (by rw [hw1]; rfl) (by decide) ?_
      refine lv_aload_n hx hb dX5_count_116 rfl (lv_at hl 0 rfl) ?_
      refine va_get (D := G.1) (ci := 5) (v := .ref n0) (C := RX5) (T := TX5) (N := 6) hx hb hts hi_X5_count_RX5 hown hK hP 0 rfl rfl 0 (by decide) (hts _ hw_X5_count_f10) (fun _ h9 => h9) rfl dX5_count_117 ?_
      refine xrd (xrunV (As := []) (rest := []) S (c_X2_valuesShown l G n0 nv vf X.1.2.1 X.1.2.2.1 er X.1.2.2.2.2 (manyA X.1.1) ) (cwV 0 hts gX5_count_X2_valuesShown rfl rfl rfl (by decide +kernel) ⟨Nat.le_of_ble_eq_true rfl, Nat.le_of_ble_eq_true rfl⟩) hE hS hA 1 2 hP rfl rfl rfl ⟨hP.sub [1, 2] rfl, hNV.vm⟩ rfl rfl hl.1 (Nat.le_of_ble_eq_true rfl) dX5_count_120 ⟨Nat.le_of_ble_eq_true rfl, Nat.le_of_ble_eq_true rfl⟩) ?_
      exact xret_i hx hb hr hlk_ dX5_count_123 (by rw [cvCou, hw1]; rfl)
    · have hw1 : a1 = 7 := Int32.toInt_inj.mp (by rw [hx1, hz]; rfl)
      refine lv_tableIn (off := 123) (tgt := 124) hx hb dX5_count_1 (by rw [hw1]; decide) (by rw [hw1]; decide) (by rw [hw1]; rfl) (by decide) ?_
      refine lv_aload_n hx hb dX5_count_124 rfl (lv_at hl 0 rfl) ?_
      refine va_get (D := G.1) (ci := 5) (v := .ref hi) (C := RX5) (T := TX5) (N := 6) hx hb hts hi_X5_count_RX5 hown hK hP 0 rfl rfl 3 (by decide) (hts _ hw_X5_count_f26) (fun _ h9 => h9) rfl dX5_count_125 ?_
      refine va_get (D := G.1) (ci := 0) (v := .int (nI X.2.2.2.2.1)) (C := RX0) (T := TX0) (N := 2) hx hb hts hi_X5_count_RX0 hown hK hP 5 rfl rfl 1 (by decide) (hts _ hw_X5_count_f145) (fun _ h9 => h9) rfl dX5_count_128 ?_
      exact xret_i hx hb hr hlk_ dX5_count_131 (by rw [cvCou, hw1]; rfl)
    · have hw1 : a1 = 8 := Int32.toInt_inj.mp (by rw [hx1, hz]; rfl)
      refine lv_tableIn (off := 131) (tgt := 132) hx hb dX5_count_1 (by rw [hw1]; decide) (by rw [hw1]; decide) (by rw [hw1]; rfl) (by decide) ?_
      refine lv_aload_n hx hb dX5_count_132 rfl (lv_at hl 0 rfl) ?_
      refine va_get (D := G.1) (ci := 5) (v := .ref tx) (C := RX5) (T := TX5) (N := 6) hx hb hts hi_X5_count_RX5 hown hK hP 0 rfl rfl 4 (by decide) (hts _ hw_X5_count_f33) (fun _ h9 => h9) rfl dX5_count_133 ?_
      refine va_get (D := G.1) (ci := 3) (v := .int (nI X.2.2.2.2.2.2)) (C := RX3) (T := TX3) (N := 2) hx hb hts hi_X5_count_RX3 hown hK hP 15 rfl rfl 1 (by decide) (hts _ hw_X5_count_f141) (fun _ h9 => h9) rfl dX5_count_136 ?_
      exact xret_i hx hb hr hlk_ dX5_count_139 (by rw [cvCou, hw1]; rfl)
  · refine lv_tableOut (tgt := 140) hx hb dX5_count_1 (by omega) (by decide) ?_
    refine lv_bipush (v := (-2)) hx hb dX5_count_140 (by decide) ?_
    exact xret_i hx hb hr hlk_ dX5_count_142 (by rw [cvCou_d c_1])
