/-! rivers: a bar, a row -/
theorem FrM.n {Z : Mem} {k v : Int} (h : 20 ≤ k) : FrM Z (ms Z 122 k v) := ⟨fun i _ _ c _ => ms_ne c, fun q _ => by rw [ms_ne (by decide)], fun q _ => by rw [ms_ne (by decide)], fun q a => by rw [ms_at, if_neg (by omega)]⟩
theorem FrM.q {Z : Mem} {k v : Int} (h : 1760 ≤ k) : FrM Z (ms Z 121 k v) := ⟨fun i _ b _ _ => ms_ne b, fun q _ => by rw [ms_ne (by decide)], fun q a => by rw [ms_at, if_neg (by omega)], fun q _ => by rw [ms_ne (by decide)]⟩
theorem name_w {X : Mem} {T : Int → Int} {n : Int} {t : Tok} (hK : TKt T n t) (hC : CSt X T n t) (h : isNm T t.b t.e t.k) : X 35 6 = c5 (LT T t.b (t.e - t.b).toNat) ∧ (∀ x ∈ LT T t.b (t.e - t.b).toNat, 97 ≤ x ∧ x ≤ 122) ∧ (1 ≤ (LT T t.b (t.e - t.b).toNat).length ∧ (LT T t.b (t.e - t.b).toNat).length ≤ 8) := by
  have hk := h.1
  have h8 := h.2.1
  have hlow := LT_low hK hk
  have hw : t.w = cwk T t.b (t.e - t.b).toNat ∧ t.b < t.e := by
    rcases hK.2 with ⟨h, -⟩ | ⟨-, h1, -, h2⟩ | ⟨h, -⟩ | ⟨h, -⟩ | ⟨h, -⟩
    · omega
    · exact ⟨h2, h1⟩
    · omega
    · omega
    · omega
  refine ⟨?_, hlow, by rw [LT_len]; omega⟩
  rw [hC.2.2.2.2.2.1 hk, hw.1]
  unfold cwk
  rw [if_pos (by omega)]
noncomputable def kEnd (X31 : Mem) : Option (Int × Mem) := cm RIV (X31 37 1) <| bd (ms X31 (X31 37 1) 2 ((X31 (X31 37 1) 2) + 1)) fun X33 => cl (f_X8_takeSign X33) fun r34 X35 => cz r34 (some (r34, X35))
noncomputable def kNam (v2 : Int) (X9 : Mem) : Option (Int × Mem) := cm RIV (X9 37 1) <| ax 5 v2 <| bd (ms X9 ((X9 37 1) + 4) v2 (X9 35 6)) fun X11 => cm RIV (X11 37 1) <| ax 5 v2 <| bd (ms X11 ((X11 37 1) + 9) v2 (-1)) fun X13 => cl (f_X8_advance X13) fun _ X15 => bY 4 1 9 5 v2 (bY 5 0 16 6 v2 (bY 6 0 16 7 v2 (bY 7 0 16 8 v2 kEnd))) X15
noncomputable def kBar (v2 : Int) (X4 : Mem) : Option (Int × Mem) := cl (f_X8_isName X4) fun r5 X6 => c1 r5 <| if ¬ r5 = 0 then cm RIV (X6 37 1) <| cl (f_X2_barNamed (X6 37 1) (X6 35 6) X6) fun r8 X9 => c2 r8 (-1) <| if r8 = -1 then kNam v2 X9 else cl (f_X8_fail 3 X9) fun r36 X37 => cz r36 (some (r36, X37)) else some (0, X6)
theorem takeBar_eq {X : Mem} : f_X3_takeBar X = cm RIV (X 37 1) (bd (X (X 37 1) 2) fun v2 => c2 v2 5 <| if v2 < 5 then cl (f_X8_advance X) fun _ X4 => kBar v2 X4 else cl (f_X8_fail 6 X) fun r38 X39 => cz r38 (some (r38, X39))) := rfl
noncomputable def zBar (v1 : Int) (X4 : Mem) : Option (Int × Mem) := cl (f_X12_isName 33 X4) fun r5 X6 => c1 r5 <| if ¬ r5 = 0 then cl (f_X12_findHere 20 v1 X6) fun r7 X8 => c2 r7 (-1) <| if r7 = -1 then cl (f_X12_nameHere X8) fun r9 X10 => ax 25 (20 + v1) <| bd (ms X10 122 (20 + v1) r9) fun X11 => cl (f_X12_ahead X11) fun _ X13 => L_X12_aBar_84 KF (1788 + (4 * v1)) 0 X13 else cl (f_X12_fails 3 X8) fun r19 X20 => cz r19 (some (r19, X20)) else cl (f_X12_fails 2 X6) fun r21 X22 => cz r21 (some (r21, X22))
theorem aBar_eq {X : Mem} : f_X12_aBar X = ax 2200 1762 (bd (X 121 1762) fun v1 => bd (1788 + (4 * v1)) fun _ => c2 v1 5 <| if ¬ v1 = 5 then cl (f_X12_ahead X) fun _ X4 => zBar v1 X4 else cl (f_X12_fails 6 X) fun r23 X24 => cz r23 (some (r23, X24))) := rfl
theorem part_bar {T : Int → Int} {n p r : Int} {t : Tok} {S : Riv} (hr : r ∈ RIV) (hn : n ≤ 900) (hT : TXT T n) (hK : TKt T n t) (hp : p ≤ t.e) (hs : GdR S) (hq : t33 T t = 2) : PRV T n p r t (PCR r S) (PMR S) f_X3_takeBar (B_X12_riverPart_61 2) := by
  have hk := t33_k (T := T) (t := t) (by rw [hq]; decide)
  have hrr := RIV_c hr
  have hA := hs.1.2.1
  have e61 : ∀ Z : Mem, B_X12_riverPart_61 2 Z = cl (f_X12_aBar Z) fun r44 X45 => B_X12_riverPart_230 r44 X45 := fun Z => by
    unfold B_X12_riverPart_61
    rw [c1_okk (by decide) (by decide), if_neg (by decide), if_pos rfl]
  have eA : ∀ Z : Mem, PMR S Z → Z 121 1762 = S.A 2 := fun Z h => h.2.1 2 (by decide) (by decide)
  by_cases g : S.A 2 < 5
  · refine PART.adv (kX := kBar (S.A 2)) (kZ := fun Z => cl (zBar (S.A 2) Z) fun r X => B_X12_riverPart_230 r X) hT hK (PCR.st hr) PMR.st (fun k1 k2 => ?_) (fun X Y _ hJ e => ?_) (fun Z Y _ _ hJ e => ?_)
    · generalize nx T n t.e = t1 at *
      have hr1 := k1.r
      by_cases gn : isNm T t1.b t1.e t1.k
      · have hfr := fnd_r (Nm := S.Nm) (c := c8 (LT T t1.b (t1.e - t1.b).toNat)) (S.A 2 - 0).toNat 0
        have eX : ∀ X : Mem, CSt X T n t1 → PCR r S X → kBar (S.A 2) X = c2 (fnd S.Nm (c8 (LT T t1.b (t1.e - t1.b).toNat)) (S.A 2 - 0).toNat 0) (-1) (if fnd S.Nm (c8 (LT T t1.b (t1.e - t1.b).toNat)) (S.A 2 - 0).toNat 0 = -1 then kNam (S.A 2) X else cl (f_X8_fail 3 X) fun r36 X37 => cz r36 (some (r36, X37))) := fun X hC hJ => by
          obtain ⟨w1, w2, w3⟩ := name_w k1 hC gn
          have eb : f_X2_barNamed r (X 35 6) X = some (fnd S.Nm (c8 (LT T t1.b (t1.e - t1.b).toNat)) (S.A 2 - 0).toNat 0, X) := by
            rw [w1]
            exact barNamed_eq hJ.2.1.1.2.2.1 hA hJ.2.2 w2 w3.2 KF 0 (by decide) hA.1 (by rw [KF_eq]; omega)
          rw [kBar, isName8_eq k1 hC, if_pos gn, cl_some, c1_1, n10, hJ.1.1, cm_ok hr, eb, cl_some]
        have hNr : ∀ b : Int, 0 ≤ b → b < S.A 2 → 0 ≤ S.Nm b ∧ S.Nm b ≤ 9223372036854775807 := fun b b0 b1 => by
          obtain ⟨c, hc⟩ := hs.2.2.2.2.2.2 b b0 b1
          exact (NM_r hc).2
        have eZ : ∀ Z : Mem, MSt Z T n t1 → PMR S Z → zBar (S.A 2) Z = c2 (fnd S.Nm (c8 (LT T t1.b (t1.e - t1.b).toNat)) (S.A 2 - 0).toNat 0) (-1) (if fnd S.Nm (c8 (LT T t1.b (t1.e - t1.b).toNat)) (S.A 2 - 0).toNat 0 = -1 then (ax 25 (20 + S.A 2) <| bd (ms Z 122 (20 + S.A 2) (c8 (LT T t1.b (t1.e - t1.b).toNat))) fun X11 => cl (f_X12_ahead X11) fun _ X13 => L_X12_aBar_84 KF (1788 + (4 * S.A 2)) 0 X13) else cl (f_X12_fails 3 Z) fun r19 X20 => cz r19 (some (r19, X20))) := fun Z hM hJ => by
          have hnh := nameHere_eq hT k1 hM gn.1 gn.2.1
          have ef : f_X12_findHere 20 (S.A 2) Z = some (fnd S.Nm (c8 (LT T t1.b (t1.e - t1.b).toNat)) (S.A 2 - 0).toNat 0, Z) := findHere_eq hT k1 hM gn.1 gn.2.1 hA (by decide) hJ.2.2 hNr KF 0 (by decide) hA.1 (by rw [KF_eq]; omega)
          rw [zBar, isNamem_eq hT k1 hM, if_pos gn, cl_some, c1_1, n10, ef, cl_some]
          simp only [hnh, cl_some]
        by_cases gf : fnd S.Nm (c8 (LT T t1.b (t1.e - t1.b).toNat)) (S.A 2 - 0).toNat 0 = -1
        · simp only [gf, if_true] at eX eZ
          have hnm : NM (c5 (LT T t1.b (t1.e - t1.b).toNat)) (c8 (LT T t1.b (t1.e - t1.b).toNat)) := by
            have hk1 := gn.1
            have h8 := gn.2.1
            have hlt : t1.b < t1.e := by
              rcases k1.2 with ⟨h, -⟩ | ⟨-, h1, -⟩ | ⟨h, -⟩ | ⟨h, -⟩ | ⟨h, -⟩
              · omega
              · exact h1
              · omega
              · omega
              · omega
            exact ⟨_, by rw [LT_len]; omega, by rw [LT_len]; omega, LT_low k1 hk1, rfl, rfl⟩
          generalize c8 (LT T t1.b (t1.e - t1.b).toNat) = nm at *
          refine PART.mapX (gX' := fun X13 => cl (f_X8_advance X13) fun _ X15 => bY 4 1 9 5 (S.A 2) (bY 5 0 16 6 (S.A 2) (bY 6 0 16 7 (S.A 2) (bY 7 0 16 8 (S.A 2) kEnd))) X15) (JX' := PCB r S nm (fun _ => 0) 0) ?_ (fun X hC hJ => ⟨ms (ms X (r + 4) (S.A 2) (X 35 6)) (r + 9) (S.A 2) (-1), ?_, ms_cst (ms_cst hC (by omega) (by omega)) (by omega) (by omega), ⟨?_, ?_, ?_, fun j j0 j1 => by omega⟩, (ms_frC (Or.inr (by omega)) (by omega)).trans (ms_frC (Or.inr (by omega)) (by omega))⟩)
          · refine PART.mapZ (gZ' := fun Z => cl (cl (f_X12_ahead Z) fun _ X13 => L_X12_aBar_84 KF (1788 + (4 * S.A 2)) 0 X13) fun r X => B_X12_riverPart_230 r X) (JZ' := PMB S nm (fun _ => 0) 0) ?_ (fun Z hM h18 hJ => ⟨ms Z 122 (20 + S.A 2) nm, ?_, ms_mst hM (by decide) (by omega), by rw [ms_ne (by decide)]; exact h18, ⟨⟨by rw [ms_ne (by decide)]; exact hJ.1.1, by rw [ms_ne (by decide)]; exact hJ.1.2⟩, fun q a b _ => by rw [ms_ne (by decide)]; exact hJ.2.1 q a b, fun b a c => by rw [ms_at, if_neg (by omega)]; exact hJ.2.2 b a c, by rw [ms_at, if_pos ⟨rfl, rfl⟩], fun j j0 j1 => by omega⟩, FrM.n (by omega)⟩)
            · obtain ⟨kf, hkf⟩ : ∃ k' : Nat, KF = k' + 1 + 1 + 1 + 1 + 1 := ⟨4611686018427387899, by rw [KF_eq]⟩
              refine PART.adv (kX := bY 4 1 9 5 (S.A 2) (bY 5 0 16 6 (S.A 2) (bY 6 0 16 7 (S.A 2) (bY 7 0 16 8 (S.A 2) kEnd)))) (kZ := fun Z => cl (L_X12_aBar_84 KF (1788 + (4 * S.A 2)) 0 Z) fun r X => B_X12_riverPart_230 r X) hT k1 (PCB.st (by decide) hr) PMB.st (fun k3 k4 => ?_) (fun X Y _ hJ e => ?_) (fun Z Y _ _ hJ e => ?_)
              · generalize nx T n t1.e = t2 at *
                have hr2 := k3.r
                rw [hkf]
                refine bar_step (w := 4) (j := 0) (by decide) rfl rfl w33_all.2.2.2.1 hr hn hT k3 hs g (fun t3 v0 k5 k6 l0 l0' => ?_)
                have hr3 := k5.r
                refine bar_step (w := 5) (j := 1) (by decide) rfl rfl w33_all.2.2.2.2.1 hr hn hT k5 hs g (fun t4 v1 k7 k8 l1 l1' => ?_)
                have hr4 := k7.r
                refine bar_step (w := 6) (j := 2) (by decide) rfl rfl w33_all.2.2.2.2.2.1 hr hn hT k7 hs g (fun t5 v2 k9 k10 l2 l2' => ?_)
                have hr5 := k9.r
                refine bar_step (w := 7) (j := 3) (by decide) rfl rfl w33_all.2.2.2.2.2.2.1 hr hn hT k9 hs g (fun t6 v3 k11 k12 l3 l3' => ?_)
                have hr6 := k11.r
                generalize ha : up (up (up (up (fun _ : Int => (0 : Int)) ((0 : Nat) : Int) v0) ((1 : Nat) : Int) v1) ((2 : Nat) : Int) v2) ((3 : Nat) : Int) v3 = a
                have a0 : a 0 = v0 := by rw [← ha, up_ne (by decide), up_ne (by decide), up_ne (by decide)]; exact up_same
                have a1 : a 1 = v1 := by rw [← ha, up_ne (by decide), up_ne (by decide)]; exact up_same
                have a2 : a 2 = v2 := by rw [← ha, up_ne (by decide)]; exact up_same
                have a3 : a 3 = v3 := by rw [← ha]; exact up_same
                obtain ⟨q1, q2, q3⟩ := bar_end (nm := nm) (a := a) hr hs g ⟨_, hnm⟩ (by rw [a0, a1, a2, a3]; exact ⟨⟨l0, l0'⟩, ⟨l1, l1'⟩, ⟨l2, l2'⟩, ⟨l3, l3'⟩⟩)
                refine PART.mapX (PART.mapZ (end_sign hr hn hT k11 (by omega) q1) (fun Z hM h18 hJ => ⟨ms Z 121 1762 (S.A 2 + 1), ?_, ms_mst hM (by decide) (by omega), by rw [ms_ne (by decide)]; exact h18, q3 Z hJ, FrM.q (by decide)⟩)) (fun X hC hJ => ⟨ms X r 2 (S.A 2 + 1), ?_, ms_cst hC (by omega) (by omega), q2 X hJ, ms_frC (Or.inr (by omega)) (by omega)⟩)
                · have e2 : Z 121 1762 = S.A 2 := hJ.2.1 2 (by decide) (by decide) (by omega)
                  show (cl (L_X12_aBar_84 (kf + 1) (1788 + 4 * S.A 2) 4 Z) fun r X => B_X12_riverPart_230 r X) = _
                  rw [L_X12_aBar_84, c2_ok (by decide) (by decide) (by decide) (by decide), if_pos (by decide), B_X12_aBar_139, e2, ax_ok (by decide) (by decide), ax_ok (by decide) (by decide), bd_eq, cl_some]
                · rw [kEnd, hJ.1.1.1, cm_ok hr, hJ.1.2.1.1.2.2.1, bd_eq]
              · show (cl (f_X8_advance X) fun _ X15 => _) = _
                rw [e, cl_some]
              · show (cl (cl (f_X12_ahead Z) fun _ X13 => L_X12_aBar_84 KF (1788 + (4 * S.A 2)) 0 X13) fun r X => B_X12_riverPart_230 r X) = _
                rw [e, cl_some]
            · show (cl (zBar (S.A 2) Z) fun r X => B_X12_riverPart_230 r X) = _
              rw [eZ Z hM hJ, c2_ok (by decide) (by decide) (by decide) (by decide), ax_ok (by omega) (by omega), bd_eq]
          · rw [eX X hC hJ, c2_ok (by decide) (by decide) (by decide) (by decide), kNam, hJ.1.1, cm_ok hr, ax_ok (by omega) (by omega), bd_eq, ms_ne (show (37 : Int) ≠ r + 4 by omega), hJ.1.1, cm_ok hr, ax_ok (by omega) (by omega), bd_eq]
          · exact (hJ.bar hr (by decide) (by decide) (Or.inr (Or.inl rfl))).bar hr (by decide) (by decide) (Or.inr (Or.inr rfl))
          · rw [ms_at, if_pos ⟨rfl, rfl⟩]
          · rw [ms_ne (by omega), ms_at, if_pos ⟨rfl, rfl⟩, (name_w k1 hC gn).1]
            exact hnm
        · refine PART.bad 3 (by decide) hn k1 (fun X h => h.rb) (RB.st hr) (fun X hC hJ => ?_) (fun Z hM h18 hJ => ?_)
          · rw [eX X hC hJ, c2_ok (by omega) (by omega) (by decide) (by decide), if_neg gf, fail8_eq hC, cl_some, cz_0]
          · show (cl (zBar (S.A 2) Z) fun r X => B_X12_riverPart_230 r X) = _
            rw [eZ Z hM hJ, c2_ok (by omega) (by omega) (by decide) (by decide), if_neg gf, fails_eq k1 hM h18, cl_some, cz_0, cl_some, B230_0, if_neg (by have := gn.1; omega)]
      · refine PART.bad (hereF t1 2) hereF_r hn k1 (fun X h => h.rb) (RB.st hr) (fun X hC hJ => ?_) (fun Z hM h18 hJ => ?_)
        · rw [kBar, isName8_eq k1 hC, if_neg gn, cl_some, c1_0, n00]
          rfl
        · show (cl (zBar (S.A 2) Z) fun r X => B_X12_riverPart_230 r X) = _
          rw [zBar, isNamem_eq hT k1 hM, if_neg gn, cl_some, c1_0, n00, fails_eq k1 hM h18, cl_some, cz_0, cl_some, B230_0]
          rfl
    · rw [takeBar_eq, hJ.1.1, cm_ok hr, hJ.2.1.1.2.2.1, bd_eq, c2_ok (by omega) (by omega) (by decide) (by decide), if_pos g, e, cl_some]
    · rw [e61, aBar_eq, eA Z hJ, ax_ok (by decide) (by decide), bd_eq, bd_eq, c2_ok (by omega) (by omega) (by decide) (by decide), if_pos (by omega), e, cl_some]
  · refine PART.bad 6 (by decide) hn hK (fun X h => h.rb) (RB.st hr) (fun X hC hJ => ?_) (fun Z hM h18 hJ => ?_)
    · rw [takeBar_eq, hJ.1.1, cm_ok hr, hJ.2.1.1.2.2.1, bd_eq, c2_ok (by omega) (by omega) (by decide) (by decide), if_neg g, fail8_eq hC, cl_some, cz_0]
    · rw [e61, aBar_eq, eA Z hJ, ax_ok (by decide) (by decide), bd_eq, bd_eq, c2_ok (by omega) (by omega) (by decide) (by decide), if_neg (by omega), fails_eq hK hM h18, cl_some, cz_0, cl_some, B230_0, if_neg (by omega)]
