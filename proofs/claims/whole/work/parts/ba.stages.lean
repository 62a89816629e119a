/-! rivers: stages -/
noncomputable def stA (A : Int → Int) (v : Int) : Int → Int := up (up A (16 + A 13) v) 13 (A 13 + 1)
theorem stA_e {A : Int → Int} {v k : Int} (h : k < 13 ∨ 28 ≤ k ∨ (k ≠ 13 ∧ k ≠ 16 + A 13)) (h13 : 0 ≤ A 13 ∧ A 13 < 12) : stA A v k = A k := by
  unfold stA
  rw [up_ne (by omega), up_ne (by omega)]
theorem stA_13 {A : Int → Int} {v : Int} : stA A v 13 = A 13 + 1 := up_same
theorem stA_v {A : Int → Int} {v : Int} (h : 0 ≤ A 13) : stA A v (16 + A 13) = v := by
  unfold stA
  rw [up_ne (by omega), up_same]
theorem stA_stg {A : Int → Int} {v d : Int} (h13 : 0 ≤ A 13 ∧ A 13 < 12) (d0 : 0 ≤ d) (d1 : d < 12) : stg (stA A v) d = if d = A 13 then v else stg A d := by
  unfold stg
  rw [stA_13]
  by_cases g : d = A 13
  · rw [if_pos g, if_pos (by omega), g, stA_v h13.1]
  · rw [if_neg g]
    by_cases g2 : d < A 13
    · rw [if_pos g2, if_pos (by omega), stA_e (Or.inr (Or.inr ⟨by omega, by omega⟩)) h13]
    · rw [if_neg g2, if_neg (by omega)]
theorem RV.stgs {X : Mem} {r : Int} {A : Int → Int} {v : Int} (h : RV X r A) (hA : A 2 ≤ 5) (h13 : 0 ≤ A 13 ∧ A 13 < 12) : RV (ms X (r + 3) (A 13) v) r (stA A v) := by
  have e : ∀ k : Int, k < 13 ∨ 28 ≤ k → stA A v k = A k := fun k hk => stA_e (by omega) h13
  have ne : ∀ i : Int, i ≠ r + 3 → ms X (r + 3) (A 13) v i = X i := fun i hi => ms_ne hi
  obtain ⟨h1, h2, h3, h4, h5, h6, h7⟩ := h
  refine ⟨?_, fun q q0 q1 => ?_, fun q q0 q1 => ?_, fun d d0 d1 => ?_, fun b b0 b1 => ?_, fun b b0 b1 => ?_, fun b b0 b1 => ?_⟩
  · rw [ne r (by omega), e 0 (by omega), e 1 (by omega), e 2 (by omega), e 5 (by omega), e 6 (by omega), e 7 (by omega), e 8 (by omega), e 9 (by omega), e 10 (by omega), e 11 (by omega), e 12 (by omega)]
    exact h1
  · rw [ne _ (by omega), e _ (by omega)]
    exact h2 q q0 q1
  · rw [ne _ (by omega), e _ (by omega)]
    exact h3 q q0 q1
  · rw [stA_stg h13 d0 d1, ms_at]
    by_cases g : d = A 13
    · rw [if_pos ⟨rfl, g⟩, if_pos g]
    · rw [if_neg (fun h => g h.2), if_neg g]
      exact h4 d d0 d1
  · rw [e 2 (by omega)] at b1
    rw [ne _ (by omega), ne _ (by omega), ne _ (by omega), ne _ (by omega)]
    rw [e _ (by omega), e _ (by omega), e _ (by omega), e _ (by omega)]
    exact h5 b b0 b1
  · rw [e 2 (by omega)] at b1
    rw [ne _ (by omega)]
    have := h6 b b0 b1
    unfold LE at *
    rw [e 0 (by omega), e 1 (by omega)]
    rcases this with ⟨l1, l2⟩ | ⟨l1, l2, l3, l4⟩
    · exact Or.inl ⟨l1, fun c c0 c1 => by rw [e _ (by omega)]; exact l2 c c0 c1⟩
    · exact Or.inr ⟨l1, l2, by rw [e _ (by omega)]; exact l3, fun c c0 c1 => by rw [e _ (by omega)]; exact l4 c c0 c1⟩
  · rw [ne _ (by omega), ne _ (by omega), ne _ (by omega), ne _ (by omega)]
    exact h7 b b0 b1
theorem PCR.stg {r : Int} {S : Riv} {X : Mem} {v : Int} (hr : r ∈ RIV) (h : PCR r S X) (hs : GdR S) (h13 : S.A 13 < 12) : PCR r (S.wA (stA S.A v)) (ms X (r + 3) (S.A 13) v) := by
  have := RIV_c hr
  have h0 := hs.1.2.2.2.2.2.2.2.2.2.2.2.2.1
  obtain ⟨h1, h2, h3⟩ := h
  refine ⟨by rw [ms_ne (by omega)]; exact h1, h2.stgs hs.1.2.1.2 ⟨h0.1, h13⟩, fun b b0 b1 => ?_⟩
  have b1 : b < stA S.A v 2 := b1
  rw [stA_e (by omega) ⟨h0.1, h13⟩] at b1
  rw [ms_ne (by omega)]
  exact h3 b b0 b1
/-- all but how many stages -/
def PM13 (S : Riv) (Z : Mem) : Prop := (Z 120 20 = S.rows ∧ Z 120 19 = sbits S) ∧ (∀ q : Int, 0 ≤ q → q < 200 → q ≠ 13 → Z 121 (1760 + q) = S.A q) ∧ ∀ b : Int, 0 ≤ b → b < S.A 2 → Z 122 (20 + b) = S.Nm b
theorem PM13.st {S : Riv} : StM (PM13 S) := fun Z R hR h => by
  obtain ⟨⟨h1, h1'⟩, h2, h3⟩ := h
  exact ⟨⟨by rw [ma_same, hR 20 (by decide) (by decide) (by decide)]; exact h1, by rw [ma_same, hR 19 (by decide) (by decide) (by decide)]; exact h1'⟩, fun q a b c => by rw [ma_ne (by decide)]; exact h2 q a b c, fun b a c => by rw [ma_ne (by decide)]; exact h3 b a c⟩
theorem PM13.stg {S : Riv} {Z : Mem} {v : Int} (h : PM13 S Z) (hs : GdR S) (h13 : S.A 13 < 12) : PM13 (S.wA (stA S.A v)) (ms Z 121 (1776 + S.A 13) v) := by
  have h0 := hs.1.2.2.2.2.2.2.2.2.2.2.2.2.1
  obtain ⟨h1, h2, h3⟩ := h
  refine ⟨by rw [ms_ne (by decide)]; exact h1, fun q q0 q1 q2 => ?_, fun b b0 b1 => ?_⟩
  · show _ = stA S.A v q
    rw [ms_at]
    by_cases g : q = 16 + S.A 13
    · rw [if_pos ⟨rfl, by omega⟩, g, stA_v h0.1]
    · rw [if_neg (by omega), stA_e (Or.inr (Or.inr ⟨q2, g⟩)) ⟨h0.1, h13⟩]
      exact h2 q q0 q1 q2
  · have b1 : b < stA S.A v 2 := b1
    rw [stA_e (by omega) ⟨h0.1, h13⟩] at b1
    rw [ms_ne (by decide)]
    exact h3 b b0 b1
theorem PM13.fin {S : Riv} {Z : Mem} (h : PM13 S Z) : PMR S (ms Z 121 1773 (S.A 13)) := by
  obtain ⟨h1, h2, h3⟩ := h
  refine ⟨by rw [ms_ne (by decide)]; exact h1, fun q q0 q1 => ?_, fun b b0 b1 => by rw [ms_ne (by decide)]; exact h3 b b0 b1⟩
  rw [ms_at]
  by_cases g : q = 13
  · rw [if_pos ⟨rfl, by omega⟩, g]
  · rw [if_neg (by omega)]
    exact h2 q q0 q1 g
theorem GdR.stg {S : Riv} {v : Int} (h : GdR S) (h1' : S.st = 1) (h13 : S.A 13 < 12) (hv : -9 ≤ v ∧ v ≤ 9) : GdR (S.wA (stA S.A v)) := by
  obtain ⟨h1, h2, h3, h4, h5, ⟨h6, h7, h8⟩, h9⟩ := h
  have h0 := h1.2.2.2.2.2.2.2.2.2.2.2.2.1
  have e : ∀ k : Int, k < 13 ∨ 28 ≤ k ∨ (k ≠ 13 ∧ k ≠ 16 + S.A 13) → stA S.A v k = S.A k := fun k hk => stA_e hk ⟨h0.1, h13⟩
  refine ⟨?_, ?_, ?_, h4, ?_, ⟨?_, ?_, ?_⟩, fun b b0 b1 => ?_⟩
  · show BD (stA S.A v)
    obtain ⟨a0, a2, a3, a4, a5, a6, a7, a8, a9, a10, a11, a12, a13, a14, as, ab, ad, ao⟩ := h1
    unfold BD
    rw [e 0 (by omega), e 1 (by omega), e 2 (by omega), e 3 (by omega), e 4 (by omega), e 5 (by omega), e 6 (by omega), e 7 (by omega), e 8 (by omega), e 9 (by omega), e 10 (by omega), e 11 (by omega), e 12 (by omega), stA_13, e 14 (by omega)]
    refine ⟨a0, a2, a3, a4, a5, a6, a7, a8, a9, a10, a11, a12, by omega, a14, fun d d0 d1 => ?_, fun j j0 j1 => by rw [e _ (by omega)]; exact ab j j0 j1, fun q q0 q1 => by rw [e _ (by omega)]; exact ad q q0 q1, fun q q0 q1 => by rw [e _ (by omega)]; exact ao q q0 q1⟩
    by_cases g : d = S.A 13
    · rw [g, stA_v h0.1]
      exact hv
    · rw [e _ (by omega)]
      exact as d d0 d1
  · show 2 ≤ stA S.A v 0 ∧ 2 ≤ stA S.A v 1
    rw [e 0 (by omega), e 1 (by omega)]; exact h2
  · show 0 ≤ S.rows ∧ S.rows ≤ stA S.A v 1
    rw [e 1 (by omega)]; exact h3
  · show S.st = 0 → stA S.A v 13 = 0
    intro h
    omega
  · show stA S.A v 3 = 0
    rw [e 3 (by omega)]; exact h6
  · show stA S.A v 4 = 0
    rw [e 4 (by omega)]; exact h7
  · show stA S.A v 14 = 0
    rw [e 14 (by omega)]; exact h8
  · have b1 : b < stA S.A v 2 := b1
    rw [e 2 (by omega)] at b1
    exact h9 b b0 b1
/-- a day stands here -/
abbrev isDay (T : Int → Int) (t : Tok) : Prop := t.k = 2 ∨ t33 T t = 10
/-- what both do where a day's number must stand -/
theorem stage_num {T : Int → Int} {n p r : Int} (hr : r ∈ RIV) (hn : n ≤ 900) (hT : TXT T n) {t : Tok} {S : Riv} {j : Nat} {ls : Int} {kX : Int → Mem → Option (Int × Mem)} {kZ : Int → Int → Mem → Option (Int × Mem)} (hl : ls = 0 ∨ ls = 1) (hl2 : ls = 1 → j < 12) (hK : TKt T n t) (hp : p ≤ t.b) (hs : GdR S) (hst : S.st = 1) (h13 : S.A 13 = j) (hj : j ≤ 12)
    (h : ∀ (t2 : Tok) (S2 : Riv), TKt T n t2 → p ≤ t2.b → GdR S2 → S2.st = 1 → S2.A 13 = (j : Int) + 1 → j < 12 → PRV T n p r t2 (PCR r S2) (PM13 S2) (kX ((j : Int) + 1)) (fun Z => cl (kZ ((j : Int) + 1) (if isDay T t2 then 1 else 0) Z) fun r X => B_X12_riverPart_230 r X)) : PRV T n p r t (PCR r S) (PM13 S) (B_X3_takeStage_88 kX j ls) (fun Z => cl (B_X12_someStages_84 kZ j ls Z) fun r X => B_X12_riverPart_230 r X) := by
  have hrr := RIV_c hr
  obtain ⟨k1, k2, k3, k4, k5, k6⟩ := kr hK
  have htr := hK.r
  by_cases g2 : t.k = 2
  · have hv := k6 g2
    have e84 : ∀ Z : Mem, MSt Z T n t → B_X12_someStages_84 kZ j ls Z = if t.v ≤ 9 then (c2 (j : Int) 12 <| if ¬ (j : Int) = 12 then c1 ls <| if ls = 0 then B_X12_someStages_151 kZ j t.v (1776 + j) Z else B_X12_someStages_151 kZ j (-t.v) (1776 + j) Z else B_X12_someStages_119 Z) else B_X12_someStages_107 Z := fun Z hM => by
      obtain ⟨m1, m2, m3, m4, m5, m6, m7⟩ := hM
      rw [B_X12_someStages_84, m3, c2_ok (by omega) (by omega) (by decide) (by decide), if_pos (k4.mpr g2), m6 g2, c2_ok (by omega) (by omega) (by decide) (by decide)]
    by_cases gv : t.v ≤ 9
    · by_cases gj : j < 12
      · obtain ⟨v, hvv⟩ : ∃ v : Int, v = if ls = 0 then t.v else -t.v := ⟨_, rfl⟩
        have hvr : -9 ≤ v ∧ v ≤ 9 := by
          rw [hvv]
          split <;> omega
        have hs' := hs.stg (v := v) hst (by omega) hvr
        refine PART.mapX (gX' := fun X => cl (f_X8_advance X) fun _ X13 => kX ((j : Int) + 1) X13) (JX' := PCR r (S.wA (stA S.A v))) ?_ (fun X hC hJ => ⟨ms X (r + 3) (S.A 13) v, ?_, ms_cst hC (by omega) (by omega), hJ.stg hr hs (by omega), ms_frC (Or.inr (by omega)) (by omega)⟩)
        · refine PART.mapZ (gZ' := fun Z => cl (cl (f_X12_ahead Z) fun _ X6 => c2 (X6 120 12) 3 <| if (X6 120 12) = 3 then B_X12_someStages_178 kZ ((j : Int) + 1) X6 else cl (f_X12_inWords 33 X6) fun r7 X8 => c2 r7 10 <| if ¬ r7 = 10 then B_X12_someStages_183 kZ ((j : Int) + 1) 0 X8 else B_X12_someStages_178 kZ ((j : Int) + 1) X8) fun r X => B_X12_riverPart_230 r X) (JZ' := PM13 (S.wA (stA S.A v))) ?_ (fun Z hM h18 hJ => ⟨ms Z 121 (1776 + S.A 13) v, ?_, ms_mst hM (by decide) (by omega), by rw [ms_ne (by decide)]; exact h18, hJ.stg hs (by omega), FrM.q (by omega)⟩)
          · refine PART.adv (kX := kX ((j : Int) + 1)) (kZ := fun Z => cl (c2 (Z 120 12) 3 <| if (Z 120 12) = 3 then B_X12_someStages_178 kZ ((j : Int) + 1) Z else cl (f_X12_inWords 33 Z) fun r7 X8 => c2 r7 10 <| if ¬ r7 = 10 then B_X12_someStages_183 kZ ((j : Int) + 1) 0 X8 else B_X12_someStages_178 kZ ((j : Int) + 1) X8) fun r X => B_X12_riverPart_230 r X) hT hK (PCR.st hr) PM13.st (fun q1 q2 => ?_) (fun X Y _ hJ e => ?_) (fun Z Y _ _ hJ e => ?_)
            · generalize nx T n t.e = t2 at *
              obtain ⟨x1, x2, x3, x4, x5, x6⟩ := kr q1
              have hrt := t33_r (T := T) (t := t2)
              refine PART.mapZ (JZ' := PM13 (S.wA (stA S.A v))) (h t2 _ q1 (by omega) hs' hst (by show stA S.A v 13 = _; rw [stA_13, h13]) gj) (fun Z hM h18 hJ => ⟨Z, ?_, hM, h18, hJ, FrM.rfl'⟩)
              show (cl (c2 (Z 120 12) 3 <| _) fun r X => _) = _
              rw [hM.2.2.1, c2_ok (by omega) (by omega) (by decide) (by decide)]
              by_cases gd : t2.k = 2
              · rw [if_pos (x4.mpr gd), if_pos (show isDay T t2 from Or.inl gd), B_X12_someStages_178, B_X12_someStages_183]
              · rw [if_neg (fun h => gd (x4.mp h)), in33 hT q1 hM, cl_some, c2_ok (by omega) (by omega) (by decide) (by decide)]
                by_cases g10 : t33 T t2 = 10
                · rw [if_neg (by simpa using g10), if_pos (show isDay T t2 from Or.inr g10), B_X12_someStages_178, B_X12_someStages_183]
                · rw [if_pos g10, if_neg (show ¬ isDay T t2 from fun h => h.elim gd g10), B_X12_someStages_183]
            · show (cl (f_X8_advance X) fun _ X13 => _) = _
              rw [e, cl_some]
            · show (cl (cl (f_X12_ahead Z) fun _ X6 => _) fun r X => _) = _
              rw [e, cl_some]
          · show (cl (B_X12_someStages_84 kZ j ls Z) fun r X => B_X12_riverPart_230 r X) = _
            rw [e84 Z hM, if_pos gv, c2_ok (by omega) (by omega) (by decide) (by decide), if_pos (by omega), h13]
            rcases hl with rfl | rfl
            · rw [c1_0, i00, B_X12_someStages_151, ax_ok (by omega) (by omega), bd_eq, hvv, i00]
            · rw [c1_1, i10, B_X12_someStages_151, ax_ok (by omega) (by omega), bd_eq, hvv, i10]
        · have c7 : X 35 7 = t.v := hC.2.2.2.2.2.2 g2
          rw [B_X3_takeStage_88, isn_eq hK hC (inI_s (by decide) (by decide)) (inI_s (by decide) (by decide)), if_pos g2, if_pos ⟨hv.1, gv⟩, cl_some, c1_1, n10, c2_ok (by omega) (by omega) (by decide) (by decide), if_pos (by omega), hJ.1.1, cm_ok hr, c7, h13]
          rcases hl with rfl | rfl
          · rw [c1_0, i00, B_X3_takeStage_149, ax_ok (by omega) (by omega), bd_eq, hvv, i00]
          · rw [c1_1, i10, B_X3_takeStage_149, ax_ok (by omega) (by omega), bd_eq, hvv, i10]
      · have ej : j = 12 := by omega
        refine PART.bad 6 (by decide) hn hK (fun X h => h.rb) (RB.st hr) (fun X hC hJ => ?_) (fun Z hM h18 hJ => ?_)
        · rw [B_X3_takeStage_88, isn_eq hK hC (inI_s (by decide) (by decide)) (inI_s (by decide) (by decide)), if_pos g2, if_pos ⟨hv.1, gv⟩, cl_some, c1_1, n10, c2_ok (by omega) (by omega) (by decide) (by decide), if_neg (by omega), B_X3_takeStage_109, fail8_eq hC, cl_some, cz_0]
        · show (cl (B_X12_someStages_84 kZ j ls Z) fun r X => B_X12_riverPart_230 r X) = _
          rw [e84 Z hM, if_pos gv, c2_ok (by omega) (by omega) (by decide) (by decide), if_neg (by omega), B_X12_someStages_119, fails_eq hK hM h18, cl_some, cz_0, cl_some, B230_0, if_neg (by omega)]
    · refine PART.bad 4 (by decide) hn hK (fun X h => h.rb) (RB.st hr) (fun X hC hJ => ?_) (fun Z hM h18 hJ => ?_)
      · rw [B_X3_takeStage_88, isn_eq hK hC (inI_s (by decide) (by decide)) (inI_s (by decide) (by decide)), if_pos g2, if_neg (fun h => gv h.2), cl_some, c1_0, n00]
      · show (cl (B_X12_someStages_84 kZ j ls Z) fun r X => B_X12_riverPart_230 r X) = _
        rw [e84 Z hM, if_neg gv, B_X12_someStages_107, fails_eq hK hM h18, cl_some, cz_0, cl_some, B230_0, if_neg (by omega)]
  · refine PART.bad (hereF t 2) hereF_r hn hK (fun X h => h.rb) (RB.st hr) (fun X hC hJ => ?_) (fun Z hM h18 hJ => ?_)
    · rw [B_X3_takeStage_88, isn_eq hK hC (inI_s (by decide) (by decide)) (inI_s (by decide) (by decide)), if_neg g2, cl_some, c1_0, n00]
    · show (cl (B_X12_someStages_84 kZ j ls Z) fun r X => B_X12_riverPart_230 r X) = _
      rw [B_X12_someStages_84, hM.2.2.1, c2_ok (by omega) (by omega) (by decide) (by decide), if_neg (fun h => g2 (k4.mp h)), B_X12_someStages_92, fails_eq hK hM h18, cl_some, cz_0, cl_some, B230_0]
      rfl
theorem stage_loop {T : Int → Int} {n p r : Int} (hr : r ∈ RIV) (hn : n ≤ 900) (hT : TXT T n) : ∀ (K j : Nat) (t : Tok) (S : Riv), 13 - j < K → TKt T n t → p ≤ t.b → GdR S → S.st = 1 → S.A 13 = j → j ≤ 12 → (j = 0 → isDay T t) → PRV T n p r t (PCR r S) (PM13 S) (L_X3_takeStage_30 K j) (fun Z => cl (L_X12_someStages_41 K j (if isDay T t then 1 else 0) Z) fun r X => B_X12_riverPart_230 r X) := by
  have hrr := RIV_c hr
  intro K
  induction K with
  | zero => intro j t S h; omega
  | succ K ih =>
    intro j t S hK hK2 hp hs hst h13 hj h0
    obtain ⟨k1, k2, k3, k4, k5, k6⟩ := kr hK2
    have htr := hK2.r
    have e51 : ∀ X : Mem, CSt X T n t → t.k ≠ 3 ∨ j = 0 → L_X3_takeStage_30 (K + 1) j X = B_X3_takeStage_51 (fun x1 X => L_X3_takeStage_30 K x1 X) j X := fun X hC hk => by
      have c4 : X 35 4 = t.k := hC.2.2.2.1
      rw [L_X3_takeStage_30, c2_ok (by omega) (by omega) (by decide) (by decide), if_neg (by omega), c1_okk (by omega) (by omega)]
      by_cases g : (j : Int) = 0
      · rw [if_pos g]
      · rw [if_neg g, c4, c2_ok (by omega) (by omega) (by decide) (by decide), if_neg (by omega)]
    have his : ∀ X : Mem, CSt X T n t → f_X8_is 11 X = some (if t33 T t = 10 then 1 else 0, X) := fun X hC => is33 (a := 11) (q := 10) w33_all.2.2.2.2.2.2.2.2.2.2.1 hT hK2 hC
    by_cases gd : isDay T t
    · rw [if_pos gd]
      have hstep : ∀ (t2 : Tok) (ls : Int), ls = 0 ∨ ls = 1 → (ls = 1 → j < 12) → TKt T n t2 → p ≤ t2.b → PRV T n p r t2 (PCR r S) (PM13 S) (B_X3_takeStage_88 (fun x1 X => L_X3_takeStage_30 K x1 X) j ls) (fun Z => cl (B_X12_someStages_84 (fun x1 x2 X => L_X12_someStages_41 K x1 x2 X) j ls Z) fun r X => B_X12_riverPart_230 r X) := fun t2 ls hl hl2 hk2 hp2 => stage_num hr hn hT hl hl2 hk2 hp2 hs hst h13 hj (fun t3 S3 a1 a2 a3 a4 a5 a6 => ih (j + 1) t3 S3 (by omega) a1 a2 a3 a4 (by rw [a5]; rfl) (by omega) (fun h => by omega))
      by_cases g2 : t.k = 2
      · have g10 : t33 T t ≠ 10 := fun h => by
          have := t33_k (T := T) (t := t) (by omega)
          omega
        refine PART.mapX (PART.mapZ (hstep t 0 (Or.inl rfl) (fun h => by omega) hK2 hp) (fun Z hM h18 hJ => ⟨Z, ?_, hM, h18, hJ, FrM.rfl'⟩)) (fun X hC hJ => ⟨X, ?_, hC, hJ, FrC.rfl'⟩)
        · show (cl (L_X12_someStages_41 (K + 1) j 1 Z) fun r X => B_X12_riverPart_230 r X) = _
          rw [L_X12_someStages_41, c1_1, i10, hM.2.2.1, c2_ok (by omega) (by omega) (by decide) (by decide), if_pos (k4.mpr g2), B_X12_someStages_58, c2_ok (by omega) (by omega) (by decide) (by decide)]
          have e76 : ∀ Z : Mem, B_X12_someStages_76 (fun x1 x2 X => L_X12_someStages_41 K x1 x2 X) j 0 Z = B_X12_someStages_84 (fun x1 x2 X => L_X12_someStages_41 K x1 x2 X) j 0 Z := fun Z => by
            rw [B_X12_someStages_76, c1_0, i00]
          by_cases g12 : (j : Int) = 12
          · rw [if_neg (by simpa using g12), c1_0, i00, e76]
          · rw [if_pos g12, e76]
        · rw [e51 X hC (Or.inl (by omega)), B_X3_takeStage_51, his X hC, if_neg g10, cl_some, c1_0, i00]
      · have g10 : t33 T t = 10 := gd.resolve_left g2
        have hk1 := t33_k (T := T) (t := t) (by rw [g10]; decide)
        by_cases gj : j < 12
        · refine PART.adv (kX := B_X3_takeStage_88 (fun x1 X => L_X3_takeStage_30 K x1 X) j 1) (kZ := fun Z => cl (B_X12_someStages_84 (fun x1 x2 X => L_X12_someStages_41 K x1 x2 X) j 1 Z) fun r X => B_X12_riverPart_230 r X) hT hK2 (PCR.st hr) PM13.st (fun q1 q2 => ?_) (fun X Y hC hJ e => ?_) (fun Z Y hM _ hJ e => ?_)
          · exact hstep _ 1 (Or.inr rfl) (fun _ => gj) q1 (by omega)
          · rw [e51 X hC (Or.inl (by omega)), B_X3_takeStage_51, his X hC, if_pos g10, cl_some, c1_1, i10, c2_ok (by omega) (by omega) (by decide) (by decide), if_pos (by omega), e, cl_some]
          · show (cl (L_X12_someStages_41 (K + 1) j 1 Z) fun r X => B_X12_riverPart_230 r X) = _
            rw [L_X12_someStages_41, c1_1, i10, hM.2.2.1, c2_ok (by omega) (by omega) (by decide) (by decide), if_neg (fun h => g2 (k4.mp h)), B_X12_someStages_58, c2_ok (by omega) (by omega) (by decide) (by decide), if_pos (by omega), B_X12_someStages_76, c1_1, i10, e, cl_some]
        · refine PART.bad 6 (by decide) hn hK2 (fun X h => h.rb) (RB.st hr) (fun X hC hJ => ?_) (fun Z hM h18 hJ => ?_)
          · rw [e51 X hC (Or.inl (by omega)), B_X3_takeStage_51, his X hC, if_pos g10, cl_some, c1_1, i10, c2_ok (by omega) (by omega) (by decide) (by decide), if_neg (by omega), B_X3_takeStage_71, fail8_eq hC, cl_some, cz_0]
          · show (cl (L_X12_someStages_41 (K + 1) j 1 Z) fun r X => B_X12_riverPart_230 r X) = _
            rw [L_X12_someStages_41, c1_1, i10, hM.2.2.1, c2_ok (by omega) (by omega) (by decide) (by decide), if_neg (fun h => g2 (k4.mp h)), B_X12_someStages_58, c2_ok (by omega) (by omega) (by decide) (by decide), if_neg (by omega), c1_1, i10, B_X12_someStages_69, fails_eq hK2 hM h18, cl_some, cz_0, cl_some, B230_0, if_neg (by omega)]
    · have g2 : t.k ≠ 2 := fun h => gd (Or.inl h)
      have g10 : t33 T t ≠ 10 := fun h => gd (Or.inr h)
      have hj1 : j ≠ 0 := fun h => gd (h0 h)
      rw [if_neg gd]
      have e41 : ∀ Z : Mem, L_X12_someStages_41 (K + 1) j 0 Z = some (1, ms Z 121 1773 j) := fun Z => by
        rw [L_X12_someStages_41, c1_0, i00, B_X12_someStages_187, ax_ok (by decide) (by decide), bd_eq]
      refine PART.mapZ (gZ' := B_X12_riverPart_230 1) (JZ' := PMR S) ?_ (fun Z hM h18 hJ => ⟨ms Z 121 1773 (S.A 13), ?_, ms_mst hM (by decide) (by omega), by rw [ms_ne (by decide)]; exact h18, hJ.fin, FrM.q (by decide)⟩)
      · by_cases g3 : t.k = 3
        · refine PART.mapX (end_sign hr hn hT hK2 (by omega) hs) (fun X hC hJ => ⟨X, ?_, hC, hJ, FrC.rfl'⟩)
          have c4 : X 35 4 = t.k := hC.2.2.2.1
          rw [L_X3_takeStage_30, c2_ok (by omega) (by omega) (by decide) (by decide), if_neg (by omega), c1_okk (by omega) (by omega), if_neg (by omega), c4, c2_ok (by omega) (by omega) (by decide) (by decide), if_pos g3, B_X3_takeStage_163]
        · refine PART.bad (hereF t 2) hereF_r hn hK2 (fun X h => h.rb) (RB.st hr) (fun X hC hJ => ?_) (fun Z hM h18 hJ => ?_)
          · rw [e51 X hC (Or.inl g3), B_X3_takeStage_51, his X hC, if_neg g10, cl_some, c1_0, i00, B_X3_takeStage_88, isn_eq hK2 hC (inI_s (by decide) (by decide)) (inI_s (by decide) (by decide)), if_neg g2, cl_some, c1_0, n00]
          · exact sign_Z (Or.inl rfl) ((wsg hT hK2 hM h18).2 g3)
      · show (cl (L_X12_someStages_41 (K + 1) j 0 Z) fun r X => B_X12_riverPart_230 r X) = _
        rw [e41, cl_some, h13]
theorem part_stage {T : Int → Int} {n p r : Int} {t : Tok} {S : Riv} (hr : r ∈ RIV) (hn : n ≤ 900) (hT : TXT T n) (hK : TKt T n t) (hp : p ≤ t.e) (hs : GdR S) (hq : t33 T t = 9) : PRV T n p r t (PCR r S) (PMR S) f_X3_takeStage (B_X12_riverPart_31 9) := by
  have hk := t33_k (T := T) (t := t) (by rw [hq]; decide)
  have hrr := RIV_c hr
  obtain ⟨⟨-, -, b1, -⟩, -, -, b2, -⟩ := bits_po S hs
  have bS := sbits_r S hs
  by_cases g : S.st = 0
  · have h13 : S.A 13 = 0 := hs.2.2.2.2.1 g
    have hs' : GdR (S.ws 1) := by
      obtain ⟨a1, a2, a3, ⟨a4, a5, a6, a7⟩, a8, a9⟩ := hs
      exact ⟨a1, a2, a3, ⟨Or.inr rfl, a5, a6, a7⟩, fun h => absurd (show (1 : Int) = 0 from h) (by decide), a9⟩
    refine PART.mapX (gX' := fun X1 => cl (f_X8_advance X1) fun _ X3 => L_X3_takeStage_30 KF 0 X3) (JX' := PCR r (S.ws 1)) ?_ (fun X hC hJ => ⟨ms X 37 3 1, ?_, ms_cst hC (by decide) (by decide), hJ.ws hr, ms_frC (Or.inl rfl) (by decide)⟩)
    · refine PART.mapZ (gZ' := fun Z => cl (f_X12_someStages Z) fun r X => B_X12_riverPart_230 r X) (JZ' := PM13 (S.ws 1)) ?_ (fun Z hM h18 hJ => ⟨ms Z 120 19 (sbits (S.ws 1)), ?_, ms_mst hM (by decide) (by omega), by rw [ms_at, if_neg (by omega)]; exact h18, ?_, FrM.s (by omega)⟩)
      · refine PART.adv (kX := L_X3_takeStage_30 KF 0) (kZ := fun Z => cl (c2 (Z 120 12) 3 <| if (Z 120 12) = 3 then B_X12_someStages_25 0 Z else cl (f_X12_inWords 33 Z) fun r21 X22 => c2 r21 10 <| if ¬ r21 = 10 then B_X12_someStages_30 0 0 X22 else B_X12_someStages_25 0 X22) fun r X => B_X12_riverPart_230 r X) hT hK (PCR.st hr) PM13.st (fun k1 k2 => ?_) (fun X Y _ hJ e => ?_) (fun Z Y _ _ hJ e => ?_)
        · generalize nx T n t.e = t1 at *
          have hr1 := k1.r
          obtain ⟨q1, q2, q3, q4, q5, q6⟩ := kr k1
          have hrt := t33_r (T := T) (t := t1)
          by_cases gd : isDay T t1
          · have h := stage_loop (p := p) hr hn hT KF 0 t1 (S.ws 1) (by rw [KF_eq]; omega) k1 (by omega) hs' rfl h13 (by omega) (fun _ => gd)
            rw [if_pos gd] at h
            refine PART.mapZ (JZ' := PM13 (S.ws 1)) h (fun Z hM h18 hJ => ⟨Z, ?_, hM, h18, hJ, FrM.rfl'⟩)
            show (cl (c2 (Z 120 12) 3 <| _) fun r X => _) = _
            have e25 : ∀ Z : Mem, B_X12_someStages_25 0 Z = L_X12_someStages_41 KF ((0 : Nat) : Int) 1 Z := fun Z => by
              rw [B_X12_someStages_25, B_X12_someStages_30, c1_1, n10]
              rfl
            rw [hM.2.2.1, c2_ok (by omega) (by omega) (by decide) (by decide)]
            by_cases g2 : t1.k = 2
            · rw [if_pos (q4.mpr g2), e25]
            · have g10 := gd.resolve_left g2
              rw [if_neg (fun h => g2 (q4.mp h)), in33 hT k1 hM, cl_some, g10, c2_ok (by decide) (by decide) (by decide) (by decide), if_neg (by decide), e25]
          · have g2 : t1.k ≠ 2 := fun h => gd (Or.inl h)
            have g10 : t33 T t1 ≠ 10 := fun h => gd (Or.inr h)
            refine PART.bad (hereF t1 2) hereF_r hn k1 (fun X h => h.rb) (RB.st hr) (fun X hC hJ => ?_) (fun Z hM h18 hJ => ?_)
            · obtain ⟨KF', hKF⟩ : ∃ k' : Nat, KF = k' + 1 := ⟨4611686018427387903, by rw [KF_eq]⟩
              rw [hKF, L_X3_takeStage_30, c2_ok (by decide) (by decide) (by decide) (by decide), if_neg (by decide), c1_0, i00, B_X3_takeStage_51, show f_X8_is 11 X = some (if t33 T t1 = 10 then 1 else 0, X) from is33 (a := 11) (q := 10) w33_all.2.2.2.2.2.2.2.2.2.2.1 hT k1 hC, if_neg g10, cl_some, c1_0, i00, B_X3_takeStage_88, isn_eq k1 hC (inI_s (by decide) (by decide)) (inI_s (by decide) (by decide)), if_neg g2, cl_some, c1_0, n00]
            · show (cl (c2 (Z 120 12) 3 <| _) fun r X => _) = _
              rw [hM.2.2.1, c2_ok (by omega) (by omega) (by decide) (by decide), if_neg (fun h => g2 (q4.mp h)), in33 hT k1 hM, cl_some, c2_ok (by omega) (by omega) (by decide) (by decide), if_pos g10, B_X12_someStages_30, c1_0, n00, fails_eq k1 hM h18, cl_some, cz_0, cl_some, B230_0]
              rfl
        · show (cl (f_X8_advance X) fun _ X3 => _) = _
          rw [e, cl_some]
        · show (cl (f_X12_someStages Z) fun r X => B_X12_riverPart_230 r X) = _
          unfold f_X12_someStages
          rw [e, cl_some]
      · have hb : Z 120 19 = sbits S := hJ.1.2
        show B_X12_riverPart_31 9 Z = _
        unfold B_X12_riverPart_31
        rw [hb, b1, g, c2_ok (by decide) (by decide) (by decide) (by decide), if_pos (by decide), b2 g, bd_eq]
        unfold B_X12_riverPart_61
        rw [c1_okk (by decide) (by decide), if_neg (by decide), if_neg (by decide), if_neg (by decide), if_neg (by decide), if_neg (by decide), if_neg (by decide), if_neg (by decide), if_neg (by decide), if_pos rfl]
      · have h := hJ.bits (S' := S.ws 1) rfl rfl rfl rfl
        exact ⟨h.1, fun q q0 q1 _ => h.2.1 q q0 q1, h.2.2⟩
    · have h5 : X 37 3 = S.st := hJ.1.2.2.1
      unfold f_X3_takeStage
      rw [h5, g, c1_0, i00, cz_1, bd_eq]
  · have g1 : S.st = 1 := by
      obtain ⟨-, -, -, ⟨h, -⟩, -⟩ := hs
      omega
    refine PART.bad 5 (by decide) hn hK (fun X h => h.rb) (RB.st hr) (fun X hC hJ => ?_) (fun Z hM h18 hJ => ?_)
    · have h5 : X 37 3 = S.st := hJ.1.2.2.1
      unfold f_X3_takeStage
      rw [h5, g1, c1_1, i10, fail8_eq hC, cl_some, cz_0]
    · have hb : Z 120 19 = sbits S := hJ.1.2
      unfold B_X12_riverPart_31
      rw [hb, b1, g1, c2_ok (by decide) (by decide) (by decide) (by decide), if_neg (by decide), fails_eq hK hM h18, cl_some, cz_0, if_neg (by omega)]
