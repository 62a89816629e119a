/-! rivers: the boat -/
noncomputable def bX (a : Nat) (lo hi f : Int) (K : Mem → Option (Int × Mem)) (X : Mem) : Option (Int × Mem) := cl (f_X8_takePair a lo hi X) fun r X3 => c1 r <| if ¬ r = 0 then cm RIV (X3 37 1) <| bd (ms X3 (X3 37 1) f (X3 35 8)) fun X5 => K X5 else some (0, X3)
theorem PRV.step {T : Int → Int} {n p r : Int} {t : Tok} {S : Riv} {a q : Nat} {f lo hi : Int} {K gZ kZ : Mem → Option (Int × Mem)} (hw : W33 a q) (hr : r ∈ RIV) (hn : n ≤ 900) (hT : TXT T n) (hK : TKt T n t) (hlo : inI lo) (hhi : inI hi) (f0 : 3 ≤ f) (f1 : f ≤ 8)
    (h : ∀ (t2 : Tok) (v : Int), TKt T n t2 → t.e ≤ t2.b → lo ≤ v → v ≤ hi → PRV T n p r t2 (PCR r (S.wA (up S.A (f + 2) v))) (PMR (S.wA (up S.A (f + 2) v))) K kZ)
    (hZ0 : ∀ (Z Y : Mem), f_X12_wantWord 33 q Z = some (0, Y) → gZ Z = some (0, Y))
    (hZ : ∀ (Z Y Y' : Mem) (r : Int), PMR S Y → r = 0 ∨ r = 1 → f_X12_wantWord 33 q Z = some (1, Y) → f_X12_number (1762 + f) lo hi Y = some (r, Y') → gZ Z = if r = 0 then some (0, Y') else kZ Y') : PRV T n p r t (PCR r S) (PMR S) (bX a lo hi f K) gZ := by
  have hrr := RIV_c hr
  refine PART.pairW (kX := fun X3 => cm RIV (X3 37 1) <| bd (ms X3 (X3 37 1) f (X3 35 8)) fun X5 => K X5) (kZ := kZ) (JZ1 := PMR (S.wA (up S.A (f + 2) (nx T n t.e).v))) (sl := 1762 + f) hw hn hT hK hlo hhi (by omega) (by omega) (PCR.st hr) PMR.st PMR.st (fun X h => h.rb) (RB.st hr) (fun v Z hJ hv => ?_) (fun h1 h2 h3 h4 h5 => ?_) (fun X Y r0 _ h0 e => ?_) (fun Z Y _ e => hZ0 Z Y e) (fun Z Y Y' r0 _ hJ h0 e1 e2 => hZ Z Y Y' r0 hJ h0 e1 e2)
  · have := hJ.fld (i := f + 2) (v := v) (by omega) (by omega)
    rw [← hv]
    rwa [show (1760 : Int) + (f + 2) = 1762 + f by omega] at this
  · refine PART.mapX (h _ _ h4 h5 h2 h3) (fun X hC hJ => ⟨ms X r f (nx T n t.e).v, ?_, ms_cst hC (by omega) (by omega), hJ.1.fld hr f0 (by omega), ms_frC (Or.inr (by omega)) (by omega)⟩)
    show (cm RIV (X 37 1) <| bd (ms X (X 37 1) f (X 35 8)) fun X5 => K X5) = _
    rw [hJ.1.1.1, hJ.2, cm_ok hr, bd_eq]
  · unfold bX
    rw [e, cl_some]
    rcases h0 with rfl | rfl
    · rw [c1_0, n00, i00]
    · rw [c1_1, n10, i10]
noncomputable def bt5 (Z : Mem) : Option (Int × Mem) := cl (f_X12_wantWord 33 17 Z) fun r23 X24 => c1 r23 <| if r23 = 0 then some (0, X24) else cl (f_X12_number 1770 0 999 X24) fun r25 X26 => c1 r25 <| if r25 = 0 then some (0, X26) else some (1, X26)
noncomputable def bt4 (Z : Mem) : Option (Int × Mem) := cl (f_X12_wantWord 33 16 Z) fun r19 X20 => c1 r19 <| if r19 = 0 then some (0, X20) else cl (f_X12_number 1769 0 99 X20) fun r21 X22 => c1 r21 <| if r21 = 0 then some (0, X22) else bt5 X22
noncomputable def bt3 (Z : Mem) : Option (Int × Mem) := cl (f_X12_wantWord 33 15 Z) fun r15 X16 => c1 r15 <| if r15 = 0 then some (0, X16) else cl (f_X12_number 1768 1 99 X16) fun r17 X18 => c1 r17 <| if ¬ r17 = 0 then bt4 X18 else some (0, X18)
noncomputable def bt2 (Z : Mem) : Option (Int × Mem) := cl (f_X12_wantWord 33 14 Z) fun r11 X12 => c1 r11 <| if r11 = 0 then some (0, X12) else cl (f_X12_number 1767 1 99 X12) fun r13 X14 => c1 r13 <| if r13 = 0 then some (0, X14) else bt3 X14
noncomputable def bt1 (Z : Mem) : Option (Int × Mem) := cl (f_X12_wantWord 33 13 Z) fun r7 X8 => c1 r7 <| if r7 = 0 then some (0, X8) else ax 2200 1765 <| c2 9 ((X8 121 1765) - 1) <| cl (f_X12_number 1766 0 (min 9 ((X8 121 1765) - 1)) X8) fun r9 X10 => c1 r9 <| if ¬ r9 = 0 then bt2 X10 else some (0, X10)
noncomputable def bt0 (Z : Mem) : Option (Int × Mem) := cl (f_X12_wantWord 33 12 Z) fun r3 X4 => c1 r3 <| if r3 = 0 then some (0, X4) else cl (f_X12_number 1765 1 20 X4) fun r5 X6 => c1 r5 <| if ¬ r5 = 0 then bt1 X6 else some (0, X6)
theorem aBoat_eq {Z : Mem} : f_X12_aBoat Z = cl (f_X12_ahead Z) fun _ X2 => bt0 X2 := rfl
theorem B230_0 {Z : Mem} : B_X12_riverPart_230 0 Z = some (0, Z) := by rw [B_X12_riverPart_230, c1_0, i00]
noncomputable def cSign (X : Mem) : Option (Int × Mem) := cl (f_X8_takeSign X) fun r29 X30 => cz r29 (some (r29, X30))
theorem takeBoat_eq {X : Mem} : f_X3_takeBoat X = c1 (X 37 4) (if (X 37 4) = 0 then cz 1 <| bd (ms X 37 4 1) fun X1 => cl (f_X8_advance X1) fun _ X3 => bX 13 1 20 3 (fun X7 => cm RIV (X7 37 1) <| c2 9 ((X7 (X7 37 1) 3) - 1) <| bX 14 0 (min 9 ((X7 (X7 37 1) 3) - 1)) 4 (bX 15 1 99 5 (bX 16 1 99 6 (bX 17 0 99 7 (bX 18 0 999 8 cSign)))) X7) X3 else cl (f_X8_fail 5 X) fun r31 X32 => cz r31 (some (r31, X32))) := rfl
theorem part_boat {T : Int → Int} {n p r : Int} {t : Tok} {S : Riv} (hr : r ∈ RIV) (hn : n ≤ 900) (hT : TXT T n) (hK : TKt T n t) (hp : p ≤ t.e) (hs : GdR S) (hq : t33 T t = 11) : PRV T n p r t (PCR r S) (PMR S) f_X3_takeBoat (B_X12_riverPart_31 11) := by
  have hk := t33_k (T := T) (t := t) (by rw [hq]; decide)
  have hrr := RIV_c hr
  obtain ⟨⟨-, -, -, b1⟩, -, -, -, b2⟩ := bits_po S hs
  have bS := sbits_r S hs
  by_cases g : S.bo = 0
  · have hs' : GdR (S.wb 1) := by
      obtain ⟨a1, a2, a3, ⟨a4, a5, a6, a7⟩, a8⟩ := hs
      exact ⟨a1, a2, a3, ⟨a4, Or.inr rfl, a6, a7⟩, a8⟩
    refine PART.mapX (gX' := fun X1 => cl (f_X8_advance X1) fun _ X3 => bX 13 1 20 3 (fun X7 => cm RIV (X7 37 1) <| c2 9 ((X7 (X7 37 1) 3) - 1) <| bX 14 0 (min 9 ((X7 (X7 37 1) 3) - 1)) 4 (bX 15 1 99 5 (bX 16 1 99 6 (bX 17 0 99 7 (bX 18 0 999 8 cSign)))) X7) X3) (JX' := PCR r (S.wb 1)) ?_ (fun X hC hJ => ⟨ms X 37 4 1, ?_, ms_cst hC (by decide) (by decide), hJ.wb hr, ms_frC (Or.inl rfl) (by decide)⟩)
    · refine PART.mapZ (gZ' := B_X12_riverPart_61 11) (JZ' := PMR (S.wb 1)) ?_ (fun Z hM h18 hJ => ⟨ms Z 120 19 (sbits (S.wb 1)), ?_, ms_mst hM (by decide) (by omega), by rw [ms_at, if_neg (by omega)]; exact h18, hJ.bits rfl rfl rfl rfl, FrM.s (by omega)⟩)
      · refine PART.adv (kX := bX 13 1 20 3 (fun X7 => cm RIV (X7 37 1) <| c2 9 ((X7 (X7 37 1) 3) - 1) <| bX 14 0 (min 9 ((X7 (X7 37 1) 3) - 1)) 4 (bX 15 1 99 5 (bX 16 1 99 6 (bX 17 0 99 7 (bX 18 0 999 8 cSign)))) X7)) (kZ := fun Z => cl (bt0 Z) fun r X => B_X12_riverPart_230 r X) hT hK (PCR.st hr) PMR.st (fun k1 k2 => ?_) (fun X Y _ _ e => ?_) (fun Z Y _ _ _ e => ?_)
        · have hr1 := k1.r
          refine PRV.step (kZ := fun Z => cl (bt1 Z) fun r X => B_X12_riverPart_230 r X) w33_all.2.2.2.2.2.2.2.2.2.2.2.2.1 hr hn hT k1 (inI_s (by decide) (by decide)) (inI_s (by decide) (by decide)) (by decide) (by decide) (fun t2 v h4 h5 h2 h3 => ?_) (fun Z Y e => ?_) (fun Z Y Y' r0 hJ h0 e1 e2 => ?_)
          · have hg := hs'.fld (i := 3 + 2) (v := v) (by decide) (by decide) ⟨fun _ => ⟨h2, h3⟩, fun e => by omega, fun e => by omega, fun e => by omega, fun e => by omega, fun e => by omega, fun e => by omega, fun e => by omega⟩
            have hr2 := h4.r
            generalize hS2 : (S.wb 1).wA (up (S.wb 1).A (3 + 2) v) = S2 at *
            have hd : S2.A 5 = v := by
              rw [← hS2]
              show up (S.wb 1).A (3 + 2) v (3 + 2) = v
              exact up_same
            refine PART.mapX (gX' := bX 14 0 (min 9 (v - 1)) 4 (bX 15 1 99 5 (bX 16 1 99 6 (bX 17 0 99 7 (bX 18 0 999 8 cSign))))) (JX' := PCR r S2) ?_ (fun X hC hJ => ⟨X, ?_, hC, hJ, FrC.rfl'⟩)
            · refine PRV.step (kZ := fun Z => cl (bt2 Z) fun r X => B_X12_riverPart_230 r X) w33_all.2.2.2.2.2.2.2.2.2.2.2.2.2.1 hr hn hT h4 (inI_s (by decide) (by decide)) (inI_s (by omega) (by omega)) (by decide) (by decide) (fun t3 v h4 h5 h2 h3 => ?_) (fun Z Y e => ?_) (fun Z Y Y' r0 hJ h0 e1 e2 => ?_)
              · have hg := hg.fld (i := 4 + 2) (v := v) (by decide) (by decide) ⟨fun e => by omega, fun _ => ⟨h2, by omega⟩, fun e => by omega, fun e => by omega, fun e => by omega, fun e => by omega, fun e => by omega, fun e => by omega⟩
                have hr3 := h4.r
                clear hS2 hd
                generalize S2.wA (up S2.A (4 + 2) v) = S3 at *
                refine PRV.step (kZ := fun Z => cl (bt3 Z) fun r X => B_X12_riverPart_230 r X) w33_all.2.2.2.2.2.2.2.2.2.2.2.2.2.2.1 hr hn hT h4 (inI_s (by decide) (by decide)) (inI_s (by decide) (by decide)) (by decide) (by decide) (fun t4 v h4 h5 h2 h3 => ?_) (fun Z Y e => ?_) (fun Z Y Y' r0 hJ h0 e1 e2 => ?_)
                · have hg := hg.fld (i := 5 + 2) (v := v) (by decide) (by decide) ⟨fun e => by omega, fun e => by omega, fun _ => ⟨h2, h3⟩, fun e => by omega, fun e => by omega, fun e => by omega, fun e => by omega, fun e => by omega⟩
                  have hr4 := h4.r
                  generalize S3.wA (up S3.A (5 + 2) v) = S4 at *
                  refine PRV.step (kZ := fun Z => cl (bt4 Z) fun r X => B_X12_riverPart_230 r X) w33_all.2.2.2.2.2.2.2.2.2.2.2.2.2.2.2.1 hr hn hT h4 (inI_s (by decide) (by decide)) (inI_s (by decide) (by decide)) (by decide) (by decide) (fun t5 v h4 h5 h2 h3 => ?_) (fun Z Y e => ?_) (fun Z Y Y' r0 hJ h0 e1 e2 => ?_)
                  · have hg := hg.fld (i := 6 + 2) (v := v) (by decide) (by decide) ⟨fun e => by omega, fun e => by omega, fun e => by omega, fun _ => ⟨h2, h3⟩, fun e => by omega, fun e => by omega, fun e => by omega, fun e => by omega⟩
                    have hr5 := h4.r
                    generalize S4.wA (up S4.A (6 + 2) v) = S5 at *
                    refine PRV.step (kZ := fun Z => cl (bt5 Z) fun r X => B_X12_riverPart_230 r X) w33_all.2.2.2.2.2.2.2.2.2.2.2.2.2.2.2.2.1 hr hn hT h4 (inI_s (by decide) (by decide)) (inI_s (by decide) (by decide)) (by decide) (by decide) (fun t6 v h4 h5 h2 h3 => ?_) (fun Z Y e => ?_) (fun Z Y Y' r0 hJ h0 e1 e2 => ?_)
                    · have hg := hg.fld (i := 7 + 2) (v := v) (by decide) (by decide) ⟨fun e => by omega, fun e => by omega, fun e => by omega, fun e => by omega, fun _ => ⟨h2, h3⟩, fun e => by omega, fun e => by omega, fun e => by omega⟩
                      have hr6 := h4.r
                      generalize S5.wA (up S5.A (7 + 2) v) = S6 at *
                      refine PRV.step (kZ := B_X12_riverPart_230 1) w33_all.2.2.2.2.2.2.2.2.2.2.2.2.2.2.2.2.2.1 hr hn hT h4 (inI_s (by decide) (by decide)) (inI_s (by decide) (by decide)) (by decide) (by decide) (fun t7 v h4 h5 h2 h3 => ?_) (fun Z Y e => ?_) (fun Z Y Y' r0 hJ h0 e1 e2 => ?_)
                      · have hg := hg.fld (i := 8 + 2) (v := v) (by decide) (by decide) ⟨fun e => by omega, fun e => by omega, fun e => by omega, fun e => by omega, fun e => by omega, fun _ => ⟨h2, h3⟩, fun e => by omega, fun e => by omega⟩
                        exact end_sign hr hn hT h4 (by have := h4.r; omega) hg
                      · show (cl (bt5 Z) fun r X => B_X12_riverPart_230 r X) = _
                        rw [bt5, show f_X12_wantWord 33 17 Z = some (0, Y) from e, cl_some, c1_0, i00, cl_some, B230_0]
                      · show (cl (bt5 Z) fun r X => B_X12_riverPart_230 r X) = _
                        have e2 : f_X12_number 1770 0 999 Y = some (r0, Y') := e2
                        rw [bt5, show f_X12_wantWord 33 17 Z = some (1, Y) from e1, cl_some, c1_1, i10, e2, cl_some]
                        rcases h0 with rfl | rfl
                        · rw [c1_0, i00, i00, cl_some, B230_0]
                        · rw [c1_1, i10, i10, cl_some]
                    · show (cl (bt4 Z) fun r X => B_X12_riverPart_230 r X) = _
                      rw [bt4, show f_X12_wantWord 33 16 Z = some (0, Y) from e, cl_some, c1_0, i00, cl_some, B230_0]
                    · show (cl (bt4 Z) fun r X => B_X12_riverPart_230 r X) = _
                      have e2 : f_X12_number 1769 0 99 Y = some (r0, Y') := e2
                      rw [bt4, show f_X12_wantWord 33 16 Z = some (1, Y) from e1, cl_some, c1_1, i10, e2, cl_some]
                      rcases h0 with rfl | rfl
                      · rw [c1_0, i00, i00, cl_some, B230_0]
                      · rw [c1_1, i10, i10]
                  · show (cl (bt3 Z) fun r X => B_X12_riverPart_230 r X) = _
                    rw [bt3, show f_X12_wantWord 33 15 Z = some (0, Y) from e, cl_some, c1_0, i00, cl_some, B230_0]
                  · show (cl (bt3 Z) fun r X => B_X12_riverPart_230 r X) = _
                    have e2 : f_X12_number 1768 1 99 Y = some (r0, Y') := e2
                    rw [bt3, show f_X12_wantWord 33 15 Z = some (1, Y) from e1, cl_some, c1_1, i10, e2, cl_some]
                    rcases h0 with rfl | rfl
                    · rw [c1_0, n00, i00, cl_some, B230_0]
                    · rw [c1_1, n10, i10]
                · show (cl (bt2 Z) fun r X => B_X12_riverPart_230 r X) = _
                  rw [bt2, show f_X12_wantWord 33 14 Z = some (0, Y) from e, cl_some, c1_0, i00, cl_some, B230_0]
                · show (cl (bt2 Z) fun r X => B_X12_riverPart_230 r X) = _
                  have e2 : f_X12_number 1767 1 99 Y = some (r0, Y') := e2
                  rw [bt2, show f_X12_wantWord 33 14 Z = some (1, Y) from e1, cl_some, c1_1, i10, e2, cl_some]
                  rcases h0 with rfl | rfl
                  · rw [c1_0, i00, i00, cl_some, B230_0]
                  · rw [c1_1, i10, i10]
              · show (cl (bt1 Z) fun r X => B_X12_riverPart_230 r X) = _
                rw [bt1, show f_X12_wantWord 33 13 Z = some (0, Y) from e, cl_some, c1_0, i00, cl_some, B230_0]
              · show (cl (bt1 Z) fun r X => B_X12_riverPart_230 r X) = _
                have e2 : f_X12_number 1766 0 (min 9 (v - 1)) Y = some (r0, Y') := e2
                have e5 : Y 121 1765 = v := (hJ.2.1 5 (by decide) (by decide)).trans hd
                rw [bt1, show f_X12_wantWord 33 13 Z = some (1, Y) from e1, cl_some, c1_1, i10, e5, ax_ok (by decide) (by decide), c2_ok (by decide) (by decide) (by omega) (by omega), e2, cl_some]
                rcases h0 with rfl | rfl
                · rw [c1_0, n00, i00, cl_some, B230_0]
                · rw [c1_1, n10, i10]
            · have e5 : X r 3 = v := hJ.2.1.1.2.2.2.1.trans hd
              show (cm RIV (X 37 1) <| c2 9 ((X (X 37 1) 3) - 1) <| bX 14 0 (min 9 ((X (X 37 1) 3) - 1)) 4 (bX 15 1 99 5 (bX 16 1 99 6 (bX 17 0 99 7 (bX 18 0 999 8 cSign)))) X) = _
              rw [hJ.1.1, e5, cm_ok hr, c2_ok (by decide) (by decide) (by omega) (by omega)]
          · show (cl (bt0 Z) fun r X => B_X12_riverPart_230 r X) = _
            rw [bt0, show f_X12_wantWord 33 12 Z = some (0, Y) from e, cl_some, c1_0, i00, cl_some, B230_0]
          · show (cl (bt0 Z) fun r X => B_X12_riverPart_230 r X) = _
            have e2 : f_X12_number 1765 1 20 Y = some (r0, Y') := e2
            rw [bt0, show f_X12_wantWord 33 12 Z = some (1, Y) from e1, cl_some, c1_1, i10, e2, cl_some]
            rcases h0 with rfl | rfl
            · rw [c1_0, n00, i00, cl_some, B230_0]
            · rw [c1_1, n10, i10]
        · show (cl (f_X8_advance X) fun _ X3 => _) = _
          rw [e, cl_some]
        · show B_X12_riverPart_61 11 Z = _
          unfold B_X12_riverPart_61
          rw [c1_okk (by decide) (by decide), if_neg (by decide), if_neg (by decide), if_neg (by decide), if_neg (by decide), if_neg (by decide), if_neg (by decide), if_neg (by decide), if_neg (by decide), if_neg (by decide), if_neg (by decide), if_pos rfl, aBoat_eq, e, cl_some]
      · have hb : Z 120 19 = sbits S := hJ.1.2
        show B_X12_riverPart_31 11 Z = _
        unfold B_X12_riverPart_31
        rw [hb, b1, g, c2_ok (by decide) (by decide) (by decide) (by decide), if_pos (by decide), b2 g, bd_eq]
    · have h5 : X 37 4 = S.bo := hJ.1.2.2.2.1
      rw [takeBoat_eq, h5, g, c1_0, i00, cz_1, bd_eq]
  · have g1 : S.bo = 1 := by
      obtain ⟨-, -, -, ⟨-, h, -, -⟩, -⟩ := hs
      omega
    refine PART.bad 5 (by decide) hn hK (fun X h => h.rb) (RB.st hr) (fun X hC hJ => ?_) (fun Z hM h18 hJ => ?_)
    · have h5 : X 37 4 = S.bo := hJ.1.2.2.2.1
      unfold f_X3_takeBoat
      rw [h5, g1, c1_1, i10, fail8_eq hC, cl_some, cz_0]
    · have hb : Z 120 19 = sbits S := hJ.1.2
      unfold B_X12_riverPart_31
      rw [hb, b1, g1, c2_ok (by decide) (by decide) (by decide) (by decide), if_neg (by decide), fails_eq hK hM h18, cl_some, cz_0, if_neg (by omega)]
