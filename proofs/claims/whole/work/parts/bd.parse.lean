/-! rivers: all parts -/
noncomputable def aK3 (r6 v13 v17 : Int) (X16 : Mem) : Option (Int × Mem) := cm RIV (X16 37 1) <| cl (f_X8_takePair 9 v13 ((X16 (X16 37 1) 0) - 1) X16) fun r19 X20 => c1 r19 <| if ¬ r19 = 0 then bd (X20 35 8) fun v21 => aK4 r6 v13 v17 v21 X20 else some (0, X20)
noncomputable def aK2 (r6 v13 : Int) (X12 : Mem) : Option (Int × Mem) := cm RIV (X12 37 1) <| nK 0 ((X12 (X12 37 1) 1) - 1) (aK3 r6 v13) X12
noncomputable def aK1 (r6 : Int) (X9 : Mem) : Option (Int × Mem) := cm RIV (X9 37 1) <| nK 0 ((X9 (X9 37 1) 0) - 1) (aK2 r6) X9
noncomputable def aK0 (X2 : Mem) : Option (Int × Mem) := cl (f_X8_isName X2) fun r3 X4 => c1 r3 <| if ¬ r3 = 0 then cm RIV (X4 37 1) <| cl (f_X2_barNamed (X4 37 1) (X4 35 6) X4) fun r6 X7 => c2 r6 (-1) <| if ¬ r6 = -1 then cl (f_X8_advance X7) fun _ X9 => aK1 r6 X9 else cl (f_X8_fail 3 X7) fun r33 X34 => cz r33 (some (r33, X34)) else some (0, X4)
theorem takeAt_eq {X : Mem} : f_X3_takeAt X = cl (f_X8_advance X) fun _ X2 => aK0 X2 := rfl
noncomputable def zK0 (X2 : Mem) : Option (Int × Mem) := cl (f_X12_isName 33 X2) fun r3 X4 => c1 r3 <| if ¬ r3 = 0 then ax 2200 1762 <| cl (f_X12_findHere 20 (X4 121 1762) X4) fun r5 X6 => c2 r5 (-1) <| if ¬ r5 = -1 then cl (f_X12_ahead X6) fun _ X8 => L_X12_someCells_51 KF r5 0 X8 else cl (f_X12_fails 3 X6) fun r27 X28 => cz r27 (some (r27, X28)) else cl (f_X12_fails 2 X4) fun r29 X30 => cz r29 (some (r29, X30))
theorem someCells_eq {X : Mem} : f_X12_someCells X = cl (f_X12_ahead X) fun _ X2 => zK0 X2 := rfl
theorem part_at {T : Int → Int} {n p r : Int} {t : Tok} {S : Riv} (hr : r ∈ RIV) (hn : n ≤ 900) (hT : TXT T n) (hK : TKt T n t) (hp : p ≤ t.e) (hs : GdR S) (hq : t33 T t = 7) : PRV T n p r t (PCR r S) (PMR S) f_X3_takeAt (B_X12_riverPart_61 7) := by
  have hk := t33_k (T := T) (t := t) (by rw [hq]; decide)
  have hrr := RIV_c hr
  have hA := hs.1.2.1
  have hA1 : 2 ≤ S.A 0 ∧ S.A 0 ≤ 10 ∧ 2 ≤ S.A 1 ∧ S.A 1 ≤ 6 := by
    have := hs.2.1
    have := hs.1.1
    omega
  have e61 : ∀ Z : Mem, B_X12_riverPart_61 7 Z = cl (f_X12_someCells Z) fun r34 X35 => B_X12_riverPart_230 r34 X35 := fun Z => by
    unfold B_X12_riverPart_61
    rw [c1_okk (by decide) (by decide), if_neg (by decide), if_neg (by decide), if_neg (by decide), if_neg (by decide), if_neg (by decide), if_neg (by decide), if_pos rfl]
  have eA : ∀ Z : Mem, PMR S Z → Z 121 1762 = S.A 2 := fun Z h => h.2.1 2 (by decide) (by decide)
  refine PART.adv (kX := aK0) (kZ := fun Z => cl (zK0 Z) fun r X => B_X12_riverPart_230 r X) hT hK (PCR.st hr) PMR.st (fun k1 k2 => ?_) (fun X Y _ hJ e => ?_) (fun Z Y _ _ hJ e => ?_)
  · generalize nx T n t.e = t1 at *
    have hr1 := k1.r
    by_cases gn : isNm T t1.b t1.e t1.k
    · have hfr := fnd_r (Nm := S.Nm) (c := c8 (LT T t1.b (t1.e - t1.b).toNat)) (S.A 2 - 0).toNat 0
      have hNr : ∀ b : Int, 0 ≤ b → b < S.A 2 → 0 ≤ S.Nm b ∧ S.Nm b ≤ 9223372036854775807 := fun b b0 b1 => by
        obtain ⟨c, hc⟩ := hs.2.2.2.2.2.2 b b0 b1
        exact (NM_r hc).2
      generalize hbar : fnd S.Nm (c8 (LT T t1.b (t1.e - t1.b).toNat)) (S.A 2 - 0).toNat 0 = bar at *
      have eX : ∀ X : Mem, CSt X T n t1 → PCR r S X → aK0 X = c2 bar (-1) (if ¬ bar = -1 then cl (f_X8_advance X) fun _ X9 => aK1 bar X9 else cl (f_X8_fail 3 X) fun r36 X37 => cz r36 (some (r36, X37))) := fun X hC hJ => by
        obtain ⟨w1, w2, w3⟩ := name_w k1 hC gn
        have eb : f_X2_barNamed r (X 35 6) X = some (bar, X) := by
          rw [w1, ← hbar]
          exact barNamed_eq hJ.2.1.1.2.2.1 hA hJ.2.2 w2 w3.2 KF 0 (by decide) hA.1 (by rw [KF_eq]; omega)
        rw [aK0, isName8_eq k1 hC, if_pos gn, cl_some, c1_1, n10, hJ.1.1, cm_ok hr, eb, cl_some]
      have eZ : ∀ Z : Mem, MSt Z T n t1 → PMR S Z → zK0 Z = c2 bar (-1) (if ¬ bar = -1 then cl (f_X12_ahead Z) fun _ X8 => L_X12_someCells_51 KF bar 0 X8 else cl (f_X12_fails 3 Z) fun r27 X28 => cz r27 (some (r27, X28))) := fun Z hM hJ => by
        have ef : f_X12_findHere 20 (S.A 2) Z = some (bar, Z) := by
          rw [← hbar]
          exact findHere_eq hT k1 hM gn.1 gn.2.1 hA (by decide) hJ.2.2 hNr KF 0 (by decide) hA.1 (by rw [KF_eq]; omega)
        rw [zK0, isNamem_eq hT k1 hM, if_pos gn, cl_some, c1_1, n10, eA Z hJ, ax_ok (by decide) (by decide), ef, cl_some]
      by_cases gf : bar = -1
      · refine PART.bad 3 (by decide) hn k1 (fun X h => h.rb) (RB.st hr) (fun X hC hJ => ?_) (fun Z hM h18 hJ => ?_)
        · rw [eX X hC hJ, c2_ok (by omega) (by omega) (by decide) (by decide), if_neg (by simpa using gf), fail8_eq hC, cl_some, cz_0]
        · show (cl (zK0 Z) fun r X => B_X12_riverPart_230 r X) = _
          rw [eZ Z hM hJ, c2_ok (by omega) (by omega) (by decide) (by decide), if_neg (by simpa using gf), fails_eq k1 hM h18, cl_some, cz_0, cl_some, B230_0, if_neg (by have := gn.1; omega)]
      · have hb : 0 ≤ bar ∧ bar < S.A 2 := by omega
        obtain ⟨kf, hkf⟩ : ∃ k' : Nat, KF = k' + 1 + 1 + 1 + 1 + 1 := ⟨4611686018427387899, by rw [KF_eq]⟩
        have e51 : ∀ (k : Nat) (j : Int) (Z : Mem), (j = 0 ∨ j = 1) → L_X12_someCells_51 (k + 1) bar j Z = B_X12_someCells_74 (fun x1 x2 X => L_X12_someCells_51 k x1 x2 X) bar j Z := fun k j Z hj => by
          rw [L_X12_someCells_51, c2_ok (by omega) (by omega) (by decide) (by decide), if_neg (by omega), c2_ok (by omega) (by omega) (by decide) (by decide), if_pos (by omega)]
        refine PART.adv (kX := aK1 bar) (kZ := fun Z => cl (L_X12_someCells_51 KF bar 0 Z) fun r X => B_X12_riverPart_230 r X) hT k1 (PCR.st hr) PMR.st (fun k3 k4 => ?_) (fun X Y hC hJ e => ?_) (fun Z Y hM _ hJ e => ?_)
        · generalize nx T n t1.e = t2 at *
          have hr2 := k3.r
          rw [hkf]
          refine PART.mapX (gX' := nK 0 (S.A 0 - 1) (aK2 bar)) (JX' := PCR r S) (PART.mapZ (gZ' := fun Z => cl (B_X12_someCells_74 (fun x1 x2 X => L_X12_someCells_51 (kf + 1 + 1 + 1 + 1) x1 x2 X) bar ((0 : Nat) : Int) Z) fun r X => B_X12_riverPart_230 r X) (JZ' := PMQ S (fun _ => 0) ((0 : Nat) : Int)) ?_ (fun Z hM h18 hJ => ⟨Z, ?_, hM, h18, ⟨hJ, fun i i0 i1 => by omega⟩, FrM.rfl'⟩)) (fun X hC hJ => ⟨X, ?_, hC, hJ, FrC.rfl'⟩)
          · refine at_num hr hn hT k3 hs (by decide) (fun i i0 i1 => by omega) rfl rfl (fun l l0 l1 k5 k6 => ?_)
            generalize nx T n t2.e = t3 at *
            have hr3 := k5.r
            refine PART.mapX (gX' := nK 0 (S.A 1 - 1) (aK3 bar l)) (JX' := PCR r S) (PART.mapZ (gZ' := fun Z => cl (B_X12_someCells_74 (fun x1 x2 X => L_X12_someCells_51 (kf + 1 + 1 + 1) x1 x2 X) bar ((1 : Nat) : Int) Z) fun r X => B_X12_riverPart_230 r X) (JZ' := PMQ S (up (fun _ => 0) ((0 : Nat) : Int) l) ((1 : Nat) : Int)) ?_ (fun Z hM h18 hJ => ⟨Z, ?_, hM, h18, hJ, FrM.rfl'⟩)) (fun X hC hJ => ⟨X, ?_, hC, hJ, FrC.rfl'⟩)
            · refine at_num hr hn hT k5 hs (by decide) (fun i i0 i1 => by
                have : i = 0 := by omega
                subst this
                rw [show up (fun _ : Int => (0 : Int)) ((0 : Nat) : Int) l 0 = l from up_same]
                omega) rfl rfl (fun u u0 u1 k7 k8 => ?_)
              generalize nx T n t3.e = t4 at *
              have hr4 := k7.r
              have hc0 : up (up (fun _ : Int => (0 : Int)) ((0 : Nat) : Int) l) ((1 : Nat) : Int) u 0 = l := by
                rw [up_ne (by decide)]
                exact up_same
              have hc1 : up (up (fun _ : Int => (0 : Int)) ((0 : Nat) : Int) l) ((1 : Nat) : Int) u 1 = u := up_same
              generalize up (up (fun _ : Int => (0 : Int)) ((0 : Nat) : Int) l) ((1 : Nat) : Int) u = c at *
              have eZ2 : ∀ Z : Mem, L_X12_someCells_51 (kf + 1 + 1 + 1) bar 2 Z = cl (f_X12_wantWord 33 8 Z) fun r25 X26 => c1 r25 <| if ¬ r25 = 0 then B_X12_someCells_74 (fun x1 x2 X => L_X12_someCells_51 (kf + 1 + 1) x1 x2 X) bar 2 X26 else some (0, X26) := fun Z => by
                rw [L_X12_someCells_51, c2_ok (by decide) (by decide) (by decide) (by decide), if_neg (by decide), c2_ok (by decide) (by decide) (by decide) (by decide), if_neg (by decide)]
              have eK3 : ∀ X : Mem, PCR r S X → aK3 bar l u X = cl (f_X8_takePair 9 l (S.A 0 - 1) X) fun r19 X20 => c1 r19 <| if ¬ r19 = 0 then bd (X20 35 8) fun v21 => aK4 bar l u v21 X20 else some (0, X20) := fun X hJ => by
                rw [aK3, hJ.1.1, cm_ok hr, hJ.2.1.1.1]
              have l1 : l ≤ S.A 0 - 1 := l1
              have u1 : u ≤ S.A 1 - 1 := u1
              refine PART.word (a := 9) (q := 8) (kX := nK l (S.A 0 - 1) (aK4 bar l u)) (kZ := fun Z => cl (B_X12_someCells_74 (fun x1 x2 X => L_X12_someCells_51 (kf + 1 + 1) x1 x2 X) bar ((2 : Nat) : Int) Z) fun r X => B_X12_riverPart_230 r X) w33_all.2.2.2.2.2.2.2.2.1 hn hT k7 (PCR.st hr) PMQ.st (fun X h => h.rb) (RB.st hr) (fun k9 k10 => ?_) (fun X Y hC hJ e => ?_) (fun X Y hC hJ e => ?_) (fun Z Y hM _ hJ e => ?_) (fun Z Y hM _ hJ e => ?_)
              · generalize nx T n t4.e = t5 at *
                have hr5 := k9.r
                have hcc : ∀ i : Int, 0 ≤ i → i < ((2 : Nat) : Int) → 0 ≤ c i ∧ c i ≤ 10 := fun i i0 i1 => by
                  rcases (show i = 0 ∨ i = 1 by omega) with rfl | rfl <;> omega
                refine at_num (lo := l) (hi := S.A 0 - 1) hr hn hT k9 hs (by decide) hcc (by show l = c 0; exact hc0.symm) rfl (fun ri r0 r1 k11 k12 => ?_)
                generalize nx T n t5.e = t6 at *
                have hr6 := k11.r
                refine PART.mapZ (JZ' := PMQ S (up c ((2 : Nat) : Int) ri) 3) (at_last (c := up c ((2 : Nat) : Int) ri) (kf := kf) hr hn hT k11 (by omega) hs hb ⟨l0, r0, by omega⟩ ⟨u0, by omega⟩ (by rw [up_ne (by decide)]; exact hc0) (by rw [up_ne (by decide)]; exact hc1) up_same) (fun Z hM h18 hJ => ⟨Z, ?_, hM, h18, hJ, FrM.rfl'⟩)
                show (cl (L_X12_someCells_51 (kf + 1 + 1) bar 3 Z) fun r X => B_X12_riverPart_230 r X) = _
                rw [L_X12_someCells_51, c2_ok (by decide) (by decide) (by decide) (by decide), if_neg (by decide), c2_ok (by decide) (by decide) (by decide) (by decide), if_pos (by decide)]
              · rw [eK3 X hJ]
                unfold f_X8_takePair
                rw [e, cl_some, c1_0, i00, cl_some, c1_0, n00]
              · rw [eK3 X hJ]
                unfold f_X8_takePair
                rw [e, cl_some, c1_1, i10, pair_as]
                rfl
              · show (cl (L_X12_someCells_51 (kf + 1 + 1 + 1) bar 2 Z) fun r X => B_X12_riverPart_230 r X) = _
                rw [eZ2, show f_X12_wantWord 33 8 Z = some (0, Y) from e, cl_some, c1_0, n00, cl_some, B230_0]
              · show (cl (L_X12_someCells_51 (kf + 1 + 1 + 1) bar 2 Z) fun r X => B_X12_riverPart_230 r X) = _
                rw [eZ2, show f_X12_wantWord 33 8 Z = some (1, Y) from e, cl_some, c1_1, n10]
                rfl
            · show (cl (L_X12_someCells_51 (kf + 1 + 1 + 1 + 1) bar 1 Z) fun r X => B_X12_riverPart_230 r X) = _
              rw [e51 _ 1 Z (Or.inr rfl)]
              rfl
            · rw [aK2, hJ.1.1, cm_ok hr, hJ.2.1.1.2.1]
          · show (cl (L_X12_someCells_51 (kf + 1 + 1 + 1 + 1 + 1) bar 0 Z) fun r X => B_X12_riverPart_230 r X) = _
            rw [e51 _ 0 Z (Or.inl rfl)]
            rfl
          · rw [aK1, hJ.1.1, cm_ok hr, hJ.2.1.1.1]
        · rw [eX X hC hJ, c2_ok (by omega) (by omega) (by decide) (by decide), if_pos gf, e, cl_some]
        · show (cl (zK0 Z) fun r X => B_X12_riverPart_230 r X) = _
          rw [eZ Z hM hJ, c2_ok (by omega) (by omega) (by decide) (by decide), if_pos gf, e, cl_some]
    · refine PART.bad (hereF t1 2) hereF_r hn k1 (fun X h => h.rb) (RB.st hr) (fun X hC hJ => ?_) (fun Z hM h18 hJ => ?_)
      · rw [aK0, isName8_eq k1 hC, if_neg gn, cl_some, c1_0, n00]
        rfl
      · show (cl (zK0 Z) fun r X => B_X12_riverPart_230 r X) = _
        rw [zK0, isNamem_eq hT k1 hM, if_neg gn, cl_some, c1_0, n00, fails_eq k1 hM h18, cl_some, cz_0, cl_some, B230_0]
        rfl
  · rw [takeAt_eq, e, cl_some]
  · rw [e61, someCells_eq, e, cl_some]
/-- the class's answer through cz -/
theorem PART.wrap {σ : Type} {W : Int → Prop} {I : Mem → Prop} {T : Int → Int} {n p : Int} {Gd : σ → Prop} {QX QZ : σ → Mem → Prop} {t : Tok} {JX JZ : Mem → Prop} {gX gX' gZ gZ' : Mem → Option (Int × Mem)} (h : PART W I T n p Gd QX QZ t JX JZ gX' gZ') (hX : ∀ (X Y : Mem) (r : Int), CSt X T n t → r = 0 ∨ r = 1 → gX' X = some (r, Y) → gX X = some (r, Y)) (hZ : ∀ Z : Mem, MSt Z T n t → gZ Z = gZ' Z) : PART W I T n p Gd QX QZ t JX JZ gX gZ := by
  rcases h with ⟨t', s, h1, h2, h3, h4, h5⟩ | ⟨f, b, h1, h2, h4, h5⟩
  · refine Or.inl ⟨t', s, h1, h2, h3, fun X hC hJ => ?_, fun Z hM h18 hJ => ?_⟩
    · obtain ⟨Y, y1, y2⟩ := h4 X hC hJ
      exact ⟨Y, hX X Y 1 hC (Or.inr rfl) y1, y2⟩
    · rw [hZ Z hM]
      exact h5 Z hM h18 hJ
  · refine Or.inr ⟨f, b, h1, h2, fun X hC hJ => ?_, fun Z hM h18 hJ => ?_⟩
    · obtain ⟨Y, y1, y2⟩ := h4 X hC hJ
      exact ⟨Y, hX X Y 0 hC (Or.inl rfl) y1, y2⟩
    · rw [hZ Z hM]
      exact h5 Z hM h18 hJ
theorem part_any {T : Int → Int} {n p r : Int} {t : Tok} {S : Riv} (hr : r ∈ RIV) (hn : n ≤ 900) (hT : TXT T n) (hK : TKt T n t) (hp : p ≤ t.e) (hs : GdR S) : PRV T n p r t (PCR r S) (PMR S) f_X3_takePart f_X12_riverPart := by
  have hq := t33_r (T := T) (t := t)
  have i1 : ∀ X : Mem, CSt X T n t → f_X8_is 1 X = some (if t33 T t = 1 then 1 else 0, X) := fun X hC => is33 (a := 1) (q := 1) w33_all.2.1 hT hK hC
  have i2 : ∀ X : Mem, CSt X T n t → f_X8_is 2 X = some (if t33 T t = 2 then 1 else 0, X) := fun X hC => is33 (a := 2) (q := 2) w33_all.2.2.1 hT hK hC
  have i7 : ∀ X : Mem, CSt X T n t → f_X8_is 8 X = some (if t33 T t = 7 then 1 else 0, X) := fun X hC => is33 (a := 8) (q := 7) w33_all.2.2.2.2.2.2.2.1 hT hK hC
  have i9 : ∀ X : Mem, CSt X T n t → f_X8_is 10 X = some (if t33 T t = 9 then 1 else 0, X) := fun X hC => is33 (a := 10) (q := 9) w33_all.2.2.2.2.2.2.2.2.2.1 hT hK hC
  have i11 : ∀ X : Mem, CSt X T n t → f_X8_is 12 X = some (if t33 T t = 11 then 1 else 0, X) := fun X hC => is33 (a := 12) (q := 11) w33_all.2.2.2.2.2.2.2.2.2.2.2.1 hT hK hC
  have i18 : ∀ X : Mem, CSt X T n t → f_X8_is 19 X = some (if t33 T t = 18 then 1 else 0, X) := fun X hC => is33 (a := 19) (q := 18) w33_all.2.2.2.2.2.2.2.2.2.2.2.2.2.2.2.2.2.2.1 hT hK hC
  have i19 : ∀ X : Mem, CSt X T n t → f_X8_is 20 X = some (if t33 T t = 19 then 1 else 0, X) := fun X hC => is33 (a := 20) (q := 19) w33_all.2.2.2.2.2.2.2.2.2.2.2.2.2.2.2.2.2.2.2 hT hK hC
  have zB : ∀ (Z : Mem) (j : Int), MSt Z T n t → t33 T t = j → j = 9 ∨ j = 11 ∨ j = 18 ∨ j = 19 → f_X12_riverPart Z = B_X12_riverPart_31 j Z := fun Z j hM ej hj => by
    unfold f_X12_riverPart
    rw [in33 hT hK hM, cl_some, ej, c2_ok (by omega) (by omega) (by decide) (by decide), c2_ok (by omega) (by omega) (by decide) (by decide), c2_ok (by omega) (by omega) (by decide) (by decide), c2_ok (by omega) (by omega) (by decide) (by decide)]
    by_cases g9 : j = 9
    · rw [if_pos g9]
    · rw [if_neg g9]
      by_cases g11 : j = 11
      · rw [if_pos g11]
      · rw [if_neg g11]
        by_cases g18 : j = 18
        · rw [if_pos g18]
        · rw [if_neg g18, if_neg (show ¬ ¬ j = 19 by omega)]
  have zA : ∀ (Z : Mem) (j : Int), MSt Z T n t → t33 T t = j → ¬ (j = 9 ∨ j = 11 ∨ j = 18 ∨ j = 19) → f_X12_riverPart Z = B_X12_riverPart_61 j Z := fun Z j hM ej hj => by
    unfold f_X12_riverPart
    rw [in33 hT hK hM, cl_some, ej, c2_ok (by omega) (by omega) (by decide) (by decide), if_neg (by omega), c2_ok (by omega) (by omega) (by decide) (by decide), if_neg (by omega), c2_ok (by omega) (by omega) (by decide) (by decide), if_neg (by omega), c2_ok (by omega) (by omega) (by decide) (by decide), if_pos (by omega)]
  by_cases q1 : t33 T t = 1
  · refine PART.wrap (part_row hr hn hT hK hp hs q1) (fun X Y r0 hC h0 e => ?_) (fun Z hM => zA Z 1 hM q1 (by decide))
    unfold f_X3_takePart
    rw [i1 X hC, if_pos q1, cl_some, c1_1, i10, e, cl_some, cz_ok h0]
  by_cases q2 : t33 T t = 2
  · refine PART.wrap (part_bar hr hn hT hK hp hs q2) (fun X Y r0 hC h0 e => ?_) (fun Z hM => zA Z 2 hM q2 (by decide))
    unfold f_X3_takePart
    rw [i1 X hC, if_neg q1, cl_some, c1_0, i00, i2 X hC, if_pos q2, cl_some, c1_1, i10, e, cl_some, cz_ok h0]
  by_cases q7 : t33 T t = 7
  · refine PART.wrap (part_at hr hn hT hK hp hs q7) (fun X Y r0 hC h0 e => ?_) (fun Z hM => zA Z 7 hM q7 (by decide))
    unfold f_X3_takePart
    rw [i1 X hC, if_neg q1, cl_some, c1_0, i00, i2 X hC, if_neg q2, cl_some, c1_0, i00, i7 X hC, if_pos q7, cl_some, c1_1, i10, e, cl_some, cz_ok h0]
  by_cases q9 : t33 T t = 9
  · refine PART.wrap (part_stage hr hn hT hK hp hs q9) (fun X Y r0 hC h0 e => ?_) (fun Z hM => zB Z 9 hM q9 (by decide))
    unfold f_X3_takePart
    rw [i1 X hC, if_neg q1, cl_some, c1_0, i00, i2 X hC, if_neg q2, cl_some, c1_0, i00, i7 X hC, if_neg q7, cl_some, c1_0, i00, i9 X hC, if_pos q9, cl_some, c1_1, i10, e, cl_some, cz_ok h0]
  by_cases q11 : t33 T t = 11
  · refine PART.wrap (part_boat hr hn hT hK hp hs q11) (fun X Y r0 hC h0 e => ?_) (fun Z hM => zB Z 11 hM q11 (by decide))
    unfold f_X3_takePart
    rw [i1 X hC, if_neg q1, cl_some, c1_0, i00, i2 X hC, if_neg q2, cl_some, c1_0, i00, i7 X hC, if_neg q7, cl_some, c1_0, i00, i9 X hC, if_neg q9, cl_some, c1_0, i00, i11 X hC, if_pos q11, cl_some, c1_1, i10, e, cl_some, cz_ok h0]
  by_cases q18 : t33 T t = 18
  · refine PART.wrap (part_pole hr hn hT hK hp hs q18) (fun X Y r0 hC h0 e => ?_) (fun Z hM => zB Z 18 hM q18 (by decide))
    unfold f_X3_takePart
    rw [i1 X hC, if_neg q1, cl_some, c1_0, i00, i2 X hC, if_neg q2, cl_some, c1_0, i00, i7 X hC, if_neg q7, cl_some, c1_0, i00, i9 X hC, if_neg q9, cl_some, c1_0, i00, i11 X hC, if_neg q11, cl_some, c1_0, i00, i18 X hC, if_pos q18, cl_some, c1_1, i10, e, cl_some, cz_ok h0]
  by_cases q19 : t33 T t = 19
  · refine PART.wrap (part_colour hr hn hT hK hp hs q19) (fun X Y r0 hC h0 e => ?_) (fun Z hM => zB Z 19 hM q19 (by decide))
    unfold f_X3_takePart
    rw [i1 X hC, if_neg q1, cl_some, c1_0, i00, i2 X hC, if_neg q2, cl_some, c1_0, i00, i7 X hC, if_neg q7, cl_some, c1_0, i00, i9 X hC, if_neg q9, cl_some, c1_0, i00, i11 X hC, if_neg q11, cl_some, c1_0, i00, i18 X hC, if_neg q18, cl_some, c1_0, i00, i19 X hC, if_pos q19, cl_some, c1_1, i10, e, cl_some, cz_ok h0]
  refine PART.bad (hereF t 2) hereF_r hn hK (fun X h => h.rb) (RB.st hr) (fun X hC hJ => ?_) (fun Z hM h18 hJ => ?_)
  · unfold f_X3_takePart
    rw [i1 X hC, if_neg q1, cl_some, c1_0, i00, i2 X hC, if_neg q2, cl_some, c1_0, i00, i7 X hC, if_neg q7, cl_some, c1_0, i00, i9 X hC, if_neg q9, cl_some, c1_0, i00, i11 X hC, if_neg q11, cl_some, c1_0, i00, i18 X hC, if_neg q18, cl_some, c1_0, i00, i19 X hC, if_neg q19, cl_some, c1_0, i00, failHere_eq hK hC, cl_some, cz_0]
    rfl
  · rw [zA Z _ hM rfl (by omega)]
    have ef : (cl (f_X12_fails 2 Z) fun r4 X5 => cz r4 (some (r4, X5))) = some (0, flM Z (hereF t 2) t.b) := by
      rw [fails_eq hK hM h18, cl_some, cz_0]
      rfl
    unfold B_X12_riverPart_61
    simp only [ef]
    rw [c1_okk (by omega) (by omega), if_neg q1, if_neg q2]
    simp only [q7, q9, q11, q18, q19, if_false, ite_self]
