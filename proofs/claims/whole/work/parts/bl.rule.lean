/-! rules: all the text -/
theorem PRU.step {T : Int → Int} {n p u r m0 : Int} {N0 : Int → Int} {t : Tok} {S : Rul} (hu : u ∈ RUL) (hr : r ∈ RIV) (hur : u + 4 < r ∨ r + 9 < u) (hn : n ≤ 900) (hT : TXT T n) (hK : TKt T n t) (hp : p ≤ t.e) (hs : GdU m0 S) (hN : ∀ b : Int, 0 ≤ b → b < m0 → ∃ a : Int, NM a (N0 b)) (h6 : t34 T t ≠ 6) : PRU T n p u r m0 N0 t (PCU u r m0 N0 S) (PMU m0 N0 S) f_X5_takeStep f_X12_step := by
  have g0 : 0 ≤ S.A 14 := hs.1.2.2.1.1
  have gd := hs.1.1
  have hst := hs.1.2.1
  have hln := hs.1.2.2.1.2
  have ht := t34_r (T := T) (t := t)
  have iw : ∀ X : Mem, CSt X T n t → f_X5_wordOfStep X = some (if t34 T t = 0 then 1 else if t34 T t = 1 then 2 else if t34 T t = 2 then 3 else if t34 T t = 3 then 4 else if t34 T t = 4 then 5 else if t34 T t = 5 then 6 else if t34 T t = 7 then 7 else if t34 T t = 8 then 8 else -1, X) := fun X hC => by
    have j0 : f_X8_is 22 X = some (if t34 T t = 0 then 1 else 0, X) := is34 (a := 22) (q := 0) w34_all.1 hT hK hC
    have j1 : f_X8_is 23 X = some (if t34 T t = 1 then 1 else 0, X) := is34 (a := 23) (q := 1) w34_all.2.1 hT hK hC
    have j2 : f_X8_is 24 X = some (if t34 T t = 2 then 1 else 0, X) := is34 (a := 24) (q := 2) w34_all.2.2.1 hT hK hC
    have j3 : f_X8_is 25 X = some (if t34 T t = 3 then 1 else 0, X) := is34 (a := 25) (q := 3) w34_all.2.2.2.1 hT hK hC
    have j4 : f_X8_is 26 X = some (if t34 T t = 4 then 1 else 0, X) := is34 (a := 26) (q := 4) w34_all.2.2.2.2.1 hT hK hC
    have j5 : f_X8_is 27 X = some (if t34 T t = 5 then 1 else 0, X) := is34 (a := 27) (q := 5) w34_all.2.2.2.2.2.1 hT hK hC
    have j7 : f_X8_is 28 X = some (if t34 T t = 7 then 1 else 0, X) := is34 (a := 28) (q := 7) w34_all.2.2.2.2.2.2.2.1 hT hK hC
    have j8 : f_X8_is 29 X = some (if t34 T t = 8 then 1 else 0, X) := is34 (a := 29) (q := 8) w34_all.2.2.2.2.2.2.2.2.1 hT hK hC
    unfold f_X5_wordOfStep
    rw [j0, cl_some]
    by_cases e0 : t34 T t = 0
    · rw [if_pos e0, c1_1, i10, if_pos e0]
    rw [if_neg e0, c1_0, i00, j1, cl_some, if_neg e0]
    by_cases e1 : t34 T t = 1
    · rw [if_pos e1, c1_1, i10, if_pos e1]
    rw [if_neg e1, c1_0, i00, j2, cl_some, if_neg e1]
    by_cases e2 : t34 T t = 2
    · rw [if_pos e2, c1_1, i10, if_pos e2]
    rw [if_neg e2, c1_0, i00, j3, cl_some, if_neg e2]
    by_cases e3 : t34 T t = 3
    · rw [if_pos e3, c1_1, i10, if_pos e3]
    rw [if_neg e3, c1_0, i00, j4, cl_some, if_neg e3]
    by_cases e4 : t34 T t = 4
    · rw [if_pos e4, c1_1, i10, if_pos e4]
    rw [if_neg e4, c1_0, i00, j5, cl_some, if_neg e4]
    by_cases e5 : t34 T t = 5
    · rw [if_pos e5, c1_1, i10, if_pos e5]
    rw [if_neg e5, c1_0, i00, j7, cl_some, if_neg e5]
    by_cases e7 : t34 T t = 7
    · rw [if_pos e7, c1_1, i10, if_pos e7]
    rw [if_neg e7, c1_0, i00, j8, cl_some, if_neg e7]
    by_cases e8 : t34 T t = 8
    · rw [if_pos e8, c1_1, i10, if_pos e8]
    rw [if_neg e8, c1_0, i00, if_neg e8]
  have eZ : ∀ Z : Mem, MSt Z T n t → PMU m0 N0 S Z → f_X12_step Z = if t34 T t = -1 ∨ 8 < t34 T t then B_X12_step_48 Z else B_X12_step_54 (t34 T t) (S.A 14) (1960 + 4 * S.A 14) Z := fun Z hM hJ => by
    unfold f_X12_step
    rw [in34 hT hK hM, cl_some, ax_ok (by decide) (by decide), hJ.1.1, bd_eq, bd_eq, c2_ok (by omega) (by omega) (by decide) (by decide)]
    by_cases e : t34 T t = -1
    · rw [if_pos e, if_pos (Or.inl e)]
    · rw [if_neg e, c2_ok (by omega) (by omega) (by decide) (by decide)]
      by_cases e8 : 8 < t34 T t
      · rw [if_pos e8, if_pos (Or.inr e8)]
      · rw [if_neg e8, c2_ok (by omega) (by omega) (by decide) (by decide), if_pos h6, if_neg (by omega)]
  have main : ∀ r1 j op : Int, ((r1 = 1 ∧ j = 0 ∧ op = 0) ∨ (r1 = 2 ∧ j = 1 ∧ op = 0) ∨ (r1 = 3 ∧ j = 2 ∧ op = 0) ∨ (r1 = 4 ∧ j = 3 ∧ op = 0) ∨ (r1 = 5 ∧ j = 4 ∧ op = 1) ∨ (r1 = 6 ∧ j = 5 ∧ op = 1) ∨ (r1 = 7 ∧ j = 7 ∧ op = 0) ∨ (r1 = 8 ∧ j = 8 ∧ op = 0)) → t34 T t = j → 0 ≤ j ∧ j ≤ 8 ∧ j ≠ 6 → 1 ≤ r1 ∧ r1 ≤ 8 → (op = 0 ∨ op = 1) → (∀ (ln : Int) (X : Mem), 0 ≤ ln → ln ≤ 60 → B_X5_takeStep_42 r1 ln X = B_X5_takeStep_74 r1 ln op X) → (∀ Z : Mem, B_X12_step_54 j (S.A 14) (1960 + 4 * S.A 14) Z = B_X12_step_69 j (S.A 14) (1960 + 4 * S.A 14) op Z) → (∀ X : Mem, CSt X T n t → f_X5_wordOfStep X = some (r1, X)) → PRU T n p u r m0 N0 t (PCU u r m0 N0 S) (PMU m0 N0 S) f_X5_takeStep f_X12_step := fun r1 j op hj hd hj2 hr1 ho hB hZ hw => by
    have hk1 := t34_k (T := T) (t := t) (by rw [hd]; omega)
    have eZ' : ∀ Z : Mem, MSt Z T n t → PMU m0 N0 S Z → f_X12_step Z = c2 (Z 120 25) 30 (if ¬ (Z 120 25) = 30 then B_X12_step_93 j (S.A 14) (1960 + 4 * S.A 14) op Z else cl (f_X12_fails 6 Z) fun r41 X42 => cz r41 (some (r41, X42))) := fun Z hM hJ => by
      rw [eZ Z hM hJ, hd, if_neg (by clear hj; omega), hZ, B_X12_step_69, c2_ok (by clear hj; omega) (by clear hj; omega) (by decide) (by decide), if_neg hj2.2.2]
    have hX : ∀ X : Mem, f_X5_wordOfStep X = some (r1, X) → f_X5_takeStep X = cm RUL (X 38 2) (c2 (X (X 38 2) 1) 30 <| if (X (X 38 2) 1) < 30 then cm RUL (X 38 2) (cl (f_X4_add (X 38 2) r1 X) fun r5 X6 => B_X5_takeStep_42 r1 r5 X6) else B_X5_takeStep_42 r1 (-1) X) := fun X e => by
      clear hj
      unfold f_X5_takeStep
      rw [e, cl_some, c2_ok (by omega) (by omega) (by decide) (by decide), if_pos (by omega)]
    have opn : S.steps < 30 → ∀ X : Mem, CSt X T n t → PCU u r m0 N0 S X → ∃ Y : Mem, f_X5_takeStep X = B_X5_takeStep_74 r1 (S.A 14) op Y ∧ CSt Y T n t ∧ PCL u r m0 N0 S r1 (-1) 0 Y ∧ FrC (WU u) X Y := fun h30 X hC hJ => by
      clear hj
      obtain ⟨Y, y1, y2, y3, y4⟩ := PCU.add (r1 := r1) hu hr hur g0 (by omega) hC hJ
      refine ⟨Y, ?_, y2, y3, y4⟩
      rw [hX X (hw X hC), hJ.1.1, cm_ok hu, hJ.1.2.2.2.2, c2_ok (by omega) (by omega) (by decide) (by decide), if_pos h30, cm_ok hu, y1, cl_some, hB (S.A 14) Y g0 (by omega)]
    by_cases h30 : S.steps < 30
    · by_cases hop : op = 1 → S.deep < 3
      · refine PARU.mapX (gX' := B_X5_takeStep_97 r1 (S.A 14) op) (JX' := PCL u r m0 N0 S r1 (-1) 0) (PARU.mapZ (gZ' := B_X12_step_113 j (S.A 14) (1960 + 4 * S.A 14) op) (JZ' := PMU m0 N0 S) (PRU.opened hu hr hur hT hK hs h30 hj2 (fun k1 k2 => PRU.rest hu hr hur hn hT k1 (by omega) hs h30 hN hop hj)) (fun Z hM h18 hJ => ⟨Z, ?_, hM, h18, hJ, FrW.rfl'⟩)) (fun X hC hJ => ?_)
        · clear hj
          rw [eZ' Z hM hJ, hJ.1.2.2, c2_ok (by omega) (by omega) (by decide) (by decide), if_pos (by omega), B_X12_step_93]
          rcases ho with rfl | rfl
          · rw [c1_0, i00]
          · have := hop rfl
            rw [c1_1, i10, hJ.1.2.1, c2_ok (by omega) (by omega) (by decide) (by decide), if_pos (by omega)]
        · clear hj
          obtain ⟨Y, y1, y2, y3, y4⟩ := opn h30 X hC hJ
          refine ⟨Y, ?_, y2, y3, y4⟩
          rw [y1, B_X5_takeStep_74]
          rcases ho with rfl | rfl
          · rw [c1_0, i00]
          · have := hop rfl
            rw [c1_1, i10, y3.1.1.2.2.1, c2_ok (by omega) (by omega) (by decide) (by decide), if_pos (by omega)]
      · clear hj
        have h1 : op = 1 := by
          rcases ho with h | h
          · exact absurd (fun h1 => by omega) hop
          · exact h
        have h3 : S.deep = 3 := by
          by_cases g : S.deep < 3
          · exact absurd (fun _ => g) hop
          · omega
        clear hop
        refine PARU.mapX (gX' := B_X5_takeStep_74 r1 (S.A 14) op) (JX' := PCL u r m0 N0 S r1 (-1) 0) (PARU.bad 7 (by decide) hn hK (fun _ _ => trivial) TrC (fun X hC hJ => ?_) (fun Z hM h18 hJ => ?_)) (opn h30)
        · rw [B_X5_takeStep_74, h1, c1_1, i10, hJ.1.1.2.2.1, h3, c2_ok (by decide) (by decide) (by decide) (by decide), if_neg (by decide), fail8_eq hC, cl_some, cz_0]
        · rw [eZ' Z hM hJ, hJ.1.2.2, c2_ok (by omega) (by omega) (by decide) (by decide), if_pos (by omega), B_X12_step_93, h1, c1_1, i10, hJ.1.2.1, h3, c2_ok (by decide) (by decide) (by decide) (by decide), if_neg (by decide), fails_eq hK hM h18, cl_some, cz_0, hereF_w hk1]
    · clear hj
      refine PARU.bad 6 (by decide) hn hK (fun _ _ => trivial) TrC (fun X hC hJ => ?_) (fun Z hM h18 hJ => ?_)
      · rw [hX X (hw X hC), hJ.1.1, cm_ok hu, hJ.1.2.2.2.2, c2_ok (by omega) (by omega) (by decide) (by decide), if_neg h30, B_X5_takeStep_42, c2_ok (by decide) (by decide) (by decide) (by decide), if_neg (by decide), fail8_eq hC, cl_some, cz_0]
      · rw [eZ' Z hM hJ, hJ.1.2.2, c2_ok (by omega) (by omega) (by decide) (by decide), if_neg (by omega), fails_eq hK hM h18, cl_some, cz_0, hereF_w hk1]
  have sX : ∀ (r1 : Int), (r1 = 1 ∨ r1 = 2 ∨ r1 = 3 ∨ r1 = 4 ∨ r1 = 7 ∨ r1 = 8) → ∀ (ln : Int) (X : Mem), 0 ≤ ln → ln ≤ 60 → B_X5_takeStep_42 r1 ln X = B_X5_takeStep_74 r1 ln 0 X := fun r1 h ln X l0 l1 => by
    rw [B_X5_takeStep_42, c2_ok (a := ln) (by omega) (by omega) (by decide) (by decide), if_pos (show ¬ ln = -1 by omega), c2_ok (a := r1) (by omega) (by omega) (by decide) (by decide), if_neg (show ¬ r1 = 5 by omega), c2_ok (a := r1) (by omega) (by omega) (by decide) (by decide), if_pos (show ¬ r1 = 6 by omega)]
  have sX1 : ∀ (r1 : Int), (r1 = 5 ∨ r1 = 6) → ∀ (ln : Int) (X : Mem), 0 ≤ ln → ln ≤ 60 → B_X5_takeStep_42 r1 ln X = B_X5_takeStep_74 r1 ln 1 X := fun r1 h ln X l0 l1 => by
    rw [B_X5_takeStep_42, c2_ok (a := ln) (by omega) (by omega) (by decide) (by decide), if_pos (show ¬ ln = -1 by omega)]
    rcases h with rfl | rfl
    · rfl
    · rfl
  have sZ0 : ∀ j : Int, 0 ≤ j ∧ j ≤ 8 ∧ j ≠ 4 ∧ j ≠ 5 → ∀ Z : Mem, B_X12_step_54 j (S.A 14) (1960 + 4 * S.A 14) Z = B_X12_step_69 j (S.A 14) (1960 + 4 * S.A 14) 0 Z := fun j h Z => by
    rw [B_X12_step_54, c2_ok (by omega) (by omega) (by decide) (by decide), if_neg h.2.2.1, c2_ok (by omega) (by omega) (by decide) (by decide), if_pos h.2.2.2]
  by_cases e0 : t34 T t = 0
  · exact main 1 0 0 (Or.inl ⟨rfl, rfl, rfl⟩) e0 (by decide) (by decide) (Or.inl rfl) (sX 1 (by decide)) (sZ0 0 (by decide)) (fun X hC => by rw [iw X hC, if_pos e0])
  by_cases e1 : t34 T t = 1
  · exact main 2 1 0 (Or.inr (Or.inl ⟨rfl, rfl, rfl⟩)) e1 (by decide) (by decide) (Or.inl rfl) (sX 2 (by decide)) (sZ0 1 (by decide)) (fun X hC => by rw [iw X hC, if_neg e0, if_pos e1])
  by_cases e2 : t34 T t = 2
  · exact main 3 2 0 (Or.inr (Or.inr (Or.inl ⟨rfl, rfl, rfl⟩))) e2 (by decide) (by decide) (Or.inl rfl) (sX 3 (by decide)) (sZ0 2 (by decide)) (fun X hC => by rw [iw X hC, if_neg e0, if_neg e1, if_pos e2])
  by_cases e3 : t34 T t = 3
  · exact main 4 3 0 (Or.inr (Or.inr (Or.inr (Or.inl ⟨rfl, rfl, rfl⟩)))) e3 (by decide) (by decide) (Or.inl rfl) (sX 4 (by decide)) (sZ0 3 (by decide)) (fun X hC => by rw [iw X hC, if_neg e0, if_neg e1, if_neg e2, if_pos e3])
  by_cases e4 : t34 T t = 4
  · exact main 5 4 1 (Or.inr (Or.inr (Or.inr (Or.inr (Or.inl ⟨rfl, rfl, rfl⟩))))) e4 (by decide) (by decide) (Or.inr rfl) (sX1 5 (by decide)) (fun Z => rfl) (fun X hC => by rw [iw X hC, if_neg e0, if_neg e1, if_neg e2, if_neg e3, if_pos e4])
  by_cases e5 : t34 T t = 5
  · exact main 6 5 1 (Or.inr (Or.inr (Or.inr (Or.inr (Or.inr (Or.inl ⟨rfl, rfl, rfl⟩)))))) e5 (by decide) (by decide) (Or.inr rfl) (sX1 6 (by decide)) (fun Z => rfl) (fun X hC => by rw [iw X hC, if_neg e0, if_neg e1, if_neg e2, if_neg e3, if_neg e4, if_pos e5])
  by_cases e7 : t34 T t = 7
  · exact main 7 7 0 (Or.inr (Or.inr (Or.inr (Or.inr (Or.inr (Or.inr (Or.inl ⟨rfl, rfl, rfl⟩))))))) e7 (by decide) (by decide) (Or.inl rfl) (sX 7 (by decide)) (sZ0 7 (by decide)) (fun X hC => by rw [iw X hC, if_neg e0, if_neg e1, if_neg e2, if_neg e3, if_neg e4, if_neg e5, if_pos e7])
  by_cases e8 : t34 T t = 8
  · exact main 8 8 0 (Or.inr (Or.inr (Or.inr (Or.inr (Or.inr (Or.inr (Or.inr ⟨rfl, rfl, rfl⟩))))))) e8 (by decide) (by decide) (Or.inl rfl) (sX 8 (by decide)) (sZ0 8 (by decide)) (fun X hC => by rw [iw X hC, if_neg e0, if_neg e1, if_neg e2, if_neg e3, if_neg e4, if_neg e5, if_neg e7, if_pos e8])
  refine PARU.bad (hereF t 2) hereF_r hn hK (fun _ _ => trivial) TrC (fun X hC hJ => ?_) (fun Z hM h18 hJ => ?_)
  · unfold f_X5_takeStep
    rw [iw X hC, if_neg e0, if_neg e1, if_neg e2, if_neg e3, if_neg e4, if_neg e5, if_neg e7, if_neg e8, cl_some, c2_ok (by decide) (by decide) (by decide) (by decide), if_neg (by decide), failHere_eq hK hC, cl_some, cz_0]
    rfl
  · rw [eZ Z hM hJ, if_pos (by omega), B_X12_step_48, fails_eq hK hM h18, cl_some, cz_0]
    rfl
/-- the line that closes -/
def clsL (S : Rul) : Rul := (fun q => if q = 14 then S.A 14 + 1 else if q = 200 + 4 * S.A 14 then 6 else if q = 200 + 4 * S.A 14 + 1 then 0 else if q = 200 + 4 * S.A 14 + 2 then 0 else if q = 200 + 4 * S.A 14 + 3 then S.O (S.deep - 1) else if q = 200 + 4 * S.O (S.deep - 1) + 3 then S.A 14 else S.A q, S.steps, S.deep - 1, S.O)
theorem clsL_14 {S : Rul} : (clsL S).A 14 = S.A 14 + 1 := rfl
theorem clsL_e {S : Rul} (g0 : 0 ≤ S.A 14) {k j : Int} (k0 : 0 ≤ k) (k1 : k < S.A 14) (j0 : 0 ≤ j) (j1 : j < 4) : (clsL S).A (200 + 4 * k + j) = if k = S.O (S.deep - 1) ∧ j = 3 then S.A 14 else S.A (200 + 4 * k + j) := by
  show (if 200 + 4 * k + j = 14 then S.A 14 + 1 else if 200 + 4 * k + j = 200 + 4 * S.A 14 then 6 else if 200 + 4 * k + j = 200 + 4 * S.A 14 + 1 then 0 else if 200 + 4 * k + j = 200 + 4 * S.A 14 + 2 then 0 else if 200 + 4 * k + j = 200 + 4 * S.A 14 + 3 then S.O (S.deep - 1) else if 200 + 4 * k + j = 200 + 4 * S.O (S.deep - 1) + 3 then S.A 14 else S.A (200 + 4 * k + j)) = _
  rw [if_neg (by omega), if_neg (by omega), if_neg (by omega), if_neg (by omega), if_neg (by omega)]
  by_cases g : k = S.O (S.deep - 1) ∧ j = 3
  · rw [if_pos (by omega), if_pos g]
  · rw [if_neg (by omega), if_neg g]
theorem clsL_n {S : Rul} (g0 : 0 ≤ S.A 14) : (clsL S).A (200 + 4 * S.A 14) = 6 ∧ (clsL S).A (200 + 4 * S.A 14 + 1) = 0 ∧ (clsL S).A (200 + 4 * S.A 14 + 2) = 0 ∧ (clsL S).A (200 + 4 * S.A 14 + 3) = S.O (S.deep - 1) := by
  refine ⟨?_, ?_, ?_, ?_⟩
  · show (if _ then _ else _) = _
    rw [if_neg (by omega), if_pos rfl]
  · show (if _ then _ else _) = _
    rw [if_neg (by omega), if_neg (by omega), if_pos rfl]
  · show (if _ then _ else _) = _
    rw [if_neg (by omega), if_neg (by omega), if_neg (by omega), if_pos rfl]
  · show (if _ then _ else _) = _
    rw [if_neg (by omega), if_neg (by omega), if_neg (by omega), if_neg (by omega), if_pos rfl]
theorem clsL_G {S : Rul} {m0 : Int} (hs : GdU m0 S) (h : 1 ≤ S.deep) : GdU m0 (clsL S) := by
  obtain ⟨⟨g1, g2, g3, g4⟩, g5, g6, g7, g8, g9⟩ := hs
  have hd : (clsL S).deep = S.deep - 1 := rfl
  have hst : (clsL S).steps = S.steps := rfl
  have hO : (clsL S).O = S.O := rfl
  unfold GdU
  rw [hd, hst, clsL_14, hO]
  refine ⟨⟨by omega, g2, by omega, g4⟩, fun i i0 i1 => ?_, fun i j i0 i1 j0 j1 e => g6 i j i0 (by omega) j0 (by omega) e, fun _ => ?_, fun i i0 i1 => ?_, fun k k0 k1 => ?_⟩
  · have := g5 i i0 (by omega)
    omega
  · have hop := g5 (S.deep - 1) (by omega) (by omega)
    have eA : (clsL S).A 200 = if (200 : Int) = 14 then S.A 14 + 1 else if (200 : Int) = 200 + 4 * S.A 14 then 6 else if (200 : Int) = 200 + 4 * S.A 14 + 1 then 0 else if (200 : Int) = 200 + 4 * S.A 14 + 2 then 0 else if (200 : Int) = 200 + 4 * S.A 14 + 3 then S.O (S.deep - 1) else if (200 : Int) = 200 + 4 * S.O (S.deep - 1) + 3 then S.A 14 else S.A 200 := rfl
    rw [eA, if_neg (by decide), if_neg (by omega), if_neg (by omega), if_neg (by omega), if_neg (by omega), if_neg (by omega)]
    exact g7 (by omega)
  · have hi := g5 i i0 (by omega)
    have e := clsL_e (S := S) g3.1 (k := S.O i) (j := 0) hi.1 hi.2 (by decide) (by decide)
    rw [Int.add_zero, if_neg (fun h => absurd h.2 (by decide))] at e
    rw [e]
    exact g8 i i0 (by omega)
  · by_cases g : k = S.A 14
    · rw [g, (clsL_n g3.1).2.2.2]
      intro _
      exact (g5 (S.deep - 1) (by omega) (by omega)).2
    · have hk2 : k < S.A 14 := by omega
      have e := clsL_e (S := S) g3.1 (k := k) (j := 0) k0 hk2 (by decide) (by decide)
      have e3 := clsL_e (S := S) g3.1 (k := k) (j := 3) k0 hk2 (by decide) (by decide)
      rw [Int.add_zero, if_neg (fun h => absurd h.2 (by decide))] at e
      rw [e, e3]
      intro h6
      rw [if_neg (fun h => g8 (S.deep - 1) (by omega) (by omega) (by rw [← h.1]; exact h6))]
      exact g9 k k0 hk2 h6
