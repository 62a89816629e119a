/-! rivers: a row of depths -/
theorem RV.dep {X : Mem} {r : Int} {A : Int → Int} {c v : Int} (h : RV X r A) (hA : A 2 ≤ 5) (c0 : 0 ≤ c) (c1 : c < 60) : RV (ms X (r + 1) c v) r (up A (48 + c) v) := by
  have e : ∀ k : Int, k < 48 ∨ 108 ≤ k → up A (48 + c) v k = A k := fun k hk => up_ne (by omega)
  have ne : ∀ i : Int, i ≠ r + 1 → ms X (r + 1) c v i = X i := fun i hi => ms_ne hi
  have est : ∀ d : Int, 0 ≤ d → d < 12 → stg (up A (48 + c) v) d = stg A d := fun d d0 d1 => by
    unfold stg
    rw [e 13 (by omega), e (16 + d) (by omega)]
  obtain ⟨h1, h2, h3, h4, h5, h6, h7⟩ := h
  refine ⟨?_, fun q q0 q1 => ?_, fun q q0 q1 => ?_, fun d d0 d1 => ?_, fun b b0 b1 => ?_, fun b b0 b1 => ?_, fun b b0 b1 => ?_⟩
  · rw [ne r (by omega), e 0 (by omega), e 1 (by omega), e 2 (by omega), e 5 (by omega), e 6 (by omega), e 7 (by omega), e 8 (by omega), e 9 (by omega), e 10 (by omega), e 11 (by omega), e 12 (by omega)]
    exact h1
  · rw [ms_at, up_at]
    by_cases g : q = c
    · rw [if_pos ⟨rfl, g⟩, if_pos (by omega)]
    · rw [if_neg (fun h => g h.2), if_neg (by omega)]
      exact h2 q q0 q1
  · rw [ne _ (by omega), e _ (by omega)]
    exact h3 q q0 q1
  · rw [ne _ (by omega), est d d0 d1]
    exact h4 d d0 d1
  · rw [e 2 (by omega)] at b1
    rw [ne _ (by omega), ne _ (by omega), ne _ (by omega), ne _ (by omega)]
    rw [e _ (by omega), e _ (by omega), e _ (by omega), e _ (by omega)]
    exact h5 b b0 b1
  · rw [e 2 (by omega)] at b1
    rw [ne _ (by omega)]
    have := h6 b b0 b1
    unfold LE at *
    rw [e 0 (by omega), e 1 (by omega)]
    rcases this with ⟨l1, l2⟩ | ⟨l1, l2, l3, l4⟩
    · exact Or.inl ⟨l1, fun c c0 c1 => by rw [e _ (by omega)]; exact l2 c c0 c1⟩
    · exact Or.inr ⟨l1, l2, by rw [e _ (by omega)]; exact l3, fun c c0 c1 => by rw [e _ (by omega)]; exact l4 c c0 c1⟩
  · rw [ne _ (by omega), ne _ (by omega), ne _ (by omega), ne _ (by omega)]
    exact h7 b b0 b1
theorem PCR.dep {r : Int} {S : Riv} {X : Mem} {c v : Int} (hr : r ∈ RIV) (h : PCR r S X) (hs : GdR S) (c0 : 0 ≤ c) (c1 : c < 60) : PCR r (S.wA (up S.A (48 + c) v)) (ms X (r + 1) c v) := by
  have := RIV_c hr
  obtain ⟨h1, h2, h3⟩ := h
  refine ⟨by rw [ms_ne (by omega)]; exact h1, h2.dep hs.1.2.1.2 c0 c1, fun b b0 b1 => ?_⟩
  have b1 : b < up S.A (48 + c) v 2 := b1
  rw [up_ne (by omega)] at b1
  rw [ms_ne (by omega)]
  exact h3 b b0 b1
theorem PMR.dep {S : Riv} {Z : Mem} {c v : Int} (h : PMR S Z) (c0 : 0 ≤ c) (c1 : c < 60) : PMR (S.wA (up S.A (48 + c) v)) (ms Z 121 (1808 + c) v) := by
  obtain ⟨h1, h2, h3⟩ := h
  refine ⟨by rw [ms_ne (by decide)]; exact h1, fun q q0 q1 => ?_, fun b b0 b1 => ?_⟩
  · show _ = up S.A (48 + c) v q
    rw [ms_at, up_at]
    by_cases g : q = 48 + c
    · rw [if_pos ⟨rfl, by omega⟩, if_pos g]
    · rw [if_neg (by omega), if_neg g]
      exact h2 q q0 q1
  · have b1 : b < up S.A (48 + c) v 2 := b1
    rw [up_ne (by omega)] at b1
    rw [ms_ne (by decide)]
    exact h3 b b0 b1
theorem GdR.dep {S : Riv} {c v : Int} (h : GdR S) (c0 : 0 ≤ c) (c1 : c < 60) (hv : 0 ≤ v ∧ v ≤ 20) : GdR (S.wA (up S.A (48 + c) v)) := by
  obtain ⟨h1, h2, h3, h4, h5, ⟨h6, h7, h8⟩, h9⟩ := h
  have e : ∀ k : Int, k < 48 ∨ 108 ≤ k → up S.A (48 + c) v k = S.A k := fun k hk => up_ne (by omega)
  refine ⟨?_, ?_, ?_, h4, ?_, ⟨?_, ?_, ?_⟩, fun b b0 b1 => ?_⟩
  · show BD (up S.A (48 + c) v)
    obtain ⟨a0, a2, a3, a4, a5, a6, a7, a8, a9, a10, a11, a12, a13, a14, as, ab, ad, ao⟩ := h1
    unfold BD
    rw [e 0 (by omega), e 1 (by omega), e 2 (by omega), e 3 (by omega), e 4 (by omega), e 5 (by omega), e 6 (by omega), e 7 (by omega), e 8 (by omega), e 9 (by omega), e 10 (by omega), e 11 (by omega), e 12 (by omega), e 13 (by omega), e 14 (by omega)]
    refine ⟨a0, a2, a3, a4, a5, a6, a7, a8, a9, a10, a11, a12, a13, a14, fun d d0 d1 => by rw [e _ (by omega)]; exact as d d0 d1, fun j j0 j1 => by rw [e _ (by omega)]; exact ab j j0 j1, fun q q0 q1 => ?_, fun q q0 q1 => by rw [e _ (by omega)]; exact ao q q0 q1⟩
    rw [up_at]
    split
    · exact hv
    · exact ad q q0 q1
  · show 2 ≤ up S.A (48 + c) v 0 ∧ 2 ≤ up S.A (48 + c) v 1
    rw [e 0 (by omega), e 1 (by omega)]; exact h2
  · show 0 ≤ S.rows ∧ S.rows ≤ up S.A (48 + c) v 1
    rw [e 1 (by omega)]; exact h3
  · show S.st = 0 → up S.A (48 + c) v 13 = 0
    rw [e 13 (by omega)]; exact h5
  · show up S.A (48 + c) v 3 = 0
    rw [e 3 (by omega)]; exact h6
  · show up S.A (48 + c) v 4 = 0
    rw [e 4 (by omega)]; exact h7
  · show up S.A (48 + c) v 14 = 0
    rw [e 14 (by omega)]; exact h8
  · have b1 : b < up S.A (48 + c) v 2 := b1
    rw [e 2 (by omega)] at b1
    exact h9 b b0 b1
theorem PCR.wr {r : Int} {S : Riv} {X : Mem} (h : PCR r S X) (hr : r ∈ RIV) {v : Int} : PCR r (S.wr v) (ms X 37 2 v) := by
  have := RIV_c hr
  obtain ⟨⟨h1, h2, h3, h4, h5, h6⟩, h7, h8⟩ := h
  exact ⟨⟨by rw [ms_at, if_neg (by omega)]; exact h1, by rw [ms_at, if_pos ⟨rfl, rfl⟩]; rfl, by rw [ms_at, if_neg (by omega)]; exact h3, by rw [ms_at, if_neg (by omega)]; exact h4, by rw [ms_at, if_neg (by omega)]; exact h5, by rw [ms_at, if_neg (by omega)]; exact h6⟩, h7.fr (fun i a b => ms_ne (by omega)), fun b b0 b1 => by rw [ms_ne (by omega)]; exact h8 b b0 b1⟩
theorem PMR.wr {S : Riv} {Z : Mem} {v : Int} (h : PMR S Z) : PMR (S.wr v) (ms Z 120 20 v) := by
  obtain ⟨⟨h1, h2⟩, h3, h4⟩ := h
  exact ⟨⟨by rw [ms_at, if_pos ⟨rfl, rfl⟩]; rfl, by rw [ms_at, if_neg (by omega)]; exact h2⟩, fun q q0 q1 => by rw [ms_ne (by decide)]; exact h3 q q0 q1, fun b b0 b1 => by rw [ms_ne (by decide)]; exact h4 b b0 b1⟩
theorem GdR.wr {S : Riv} (h : GdR S) (hv : S.rows < S.A 1) : GdR (S.wr (S.rows + 1)) := by
  obtain ⟨h1, h2, h3, h4, h5, h6, h9⟩ := h
  exact ⟨h1, h2, by show 0 ≤ S.rows + 1 ∧ S.rows + 1 ≤ S.A 1; omega, h4, h5, h6, h9⟩
/-- the numbers of a row, for both -/
theorem row_loop {T : Int → Int} {n p r : Int} (hr : r ∈ RIV) (hn : n ≤ 900) (hT : TXT T n) : ∀ (K j : Nat) (t : Tok) (S : Riv), 11 - j < K → TKt T n t → p ≤ t.b → GdR S → S.rows < S.A 1 → (j : Int) ≤ S.A 0 → (j = 0 → t.k = 2) → PRV T n p r t (PCR r S) (PMR S) (L_X3_takeRow_33 K j) (fun Z => cl (L_X12_aRow_42 K j Z) fun r X => B_X12_riverPart_230 r X) := by
  have hrr := RIV_c hr
  intro K
  induction K with
  | zero => intro j t S h; omega
  | succ K ih =>
    intro j t S hK hK2 hp hs hrow hj h0
    obtain ⟨k1, k2, k3, k4, k5, k6⟩ := kr hK2
    have htr := hK2.r
    have hA0 := hs.1.1
    have hA1 : 2 ≤ S.A 0 ∧ S.A 0 ≤ 10 ∧ 2 ≤ S.A 1 ∧ S.A 1 ≤ 6 := by
      have := hs.2.1
      omega
    have hr0 := hs.2.2.1
    have e54 : ∀ X : Mem, CSt X T n t → t.k = 2 ∨ t.k ≠ 3 ∨ j = 0 → L_X3_takeRow_33 (K + 1) j X = B_X3_takeRow_54 (fun x1 X => L_X3_takeRow_33 K x1 X) j X := fun X hC hk => by
      have c4 : X 35 4 = t.k := hC.2.2.2.1
      rw [L_X3_takeRow_33, c2_ok (by omega) (by omega) (by decide) (by decide), if_neg (by omega), c1_okk (by omega) (by omega)]
      by_cases g : (j : Int) = 0
      · rw [if_pos g]
      · rw [if_neg g, c4, c2_ok (by omega) (by omega) (by decide) (by decide), if_neg (by omega)]
    by_cases g2 : t.k = 2
    · have hv := k6 g2
      have e42 : ∀ Z : Mem, MSt Z T n t → PMR S Z → L_X12_aRow_42 (K + 1) j Z = (if t.v ≤ 20 then (if ¬ (j : Int) = S.A 0 then (ax 2200 ((1808 + (S.A 0) * S.rows) + j) <| bd (ms Z 121 ((1808 + (S.A 0) * S.rows) + j) t.v) fun X8 => cl (f_X12_ahead X8) fun _ X10 => L_X12_aRow_42 K ((j : Int) + 1) X10) else B_X12_aRow_77 Z) else B_X12_aRow_59 Z) := fun Z hM hJ => by
        obtain ⟨m1, m2, m3, m4, m5, m6, m7⟩ := hM
        have e0 : Z 121 1760 = S.A 0 := hJ.2.1 0 (by decide) (by decide)
        rw [L_X12_aRow_42, m3, c2_ok (by omega) (by omega) (by decide) (by decide), if_neg (by have := k4.mpr g2; omega), m6 g2, c2_ok (by omega) (by omega) (by decide) (by decide), e0, hJ.1.1]
        by_cases gv : t.v ≤ 20
        · rw [if_pos gv, if_pos gv, ax_ok (by decide) (by decide), c2_ok (by omega) (by omega) (by omega) (by omega), ax_ok (by decide) (by decide)]
        · rw [if_neg gv, if_neg gv]
      by_cases gv : t.v ≤ 20
      · by_cases gj : (j : Int) = S.A 0
        · refine PART.bad 6 (by decide) hn hK2 (fun X h => h.rb) (RB.st hr) (fun X hC hJ => ?_) (fun Z hM h18 hJ => ?_)
          · rw [e54 X hC (Or.inl g2), B_X3_takeRow_54, isn_eq hK2 hC (inI_s (by decide) (by decide)) (inI_s (by decide) (by decide)), if_pos g2, if_pos ⟨hv.1, gv⟩, cl_some, c1_1, n10, hJ.1.1, cm_ok hr, hJ.2.1.1.1, c2_ok (by omega) (by omega) (by omega) (by omega), if_neg (by omega), B_X3_takeRow_80, fail8_eq hC, cl_some, cz_0]
          · show (cl (L_X12_aRow_42 (K + 1) j Z) fun r X => B_X12_riverPart_230 r X) = _
            rw [e42 Z hM hJ, if_pos gv, if_neg (by simpa using gj), B_X12_aRow_77, fails_eq hK2 hM h18, cl_some, cz_0, cl_some, B230_0, if_neg (by omega)]
        · have hc : 0 ≤ S.rows * S.A 0 ∧ S.rows * S.A 0 ≤ 50 := by
            refine ⟨Int.mul_nonneg hr0.1 (by omega), ?_⟩
            have := Int.mul_le_mul (show S.rows ≤ 5 by omega) hA1.2.1 (by omega) (by decide)
            omega
          have hcm : S.A 0 * S.rows = S.rows * S.A 0 := Int.mul_comm _ _
          have e3 : (j : Int) + 1 = ((j + 1 : Nat) : Int) := rfl
          have hs' := hs.dep (c := S.rows * S.A 0 + j) (v := t.v) (by omega) (by omega) ⟨hv.1, gv⟩
          refine PART.mapX (gX' := fun X => cl (f_X8_advance X) fun _ X17 => L_X3_takeRow_33 K ((j : Int) + 1) X17) (JX' := PCR r (S.wA (up S.A (48 + (S.rows * S.A 0 + j)) t.v))) ?_ (fun X hC hJ => ⟨ms X (r + 1) (S.rows * S.A 0 + j) t.v, ?_, ms_cst hC (by omega) (by omega), hJ.dep hr hs (by omega) (by omega), ms_frC (Or.inr (by omega)) (by omega)⟩)
          · refine PART.mapZ (gZ' := fun Z => cl (cl (f_X12_ahead Z) fun _ X10 => L_X12_aRow_42 K ((j : Int) + 1) X10) fun r X => B_X12_riverPart_230 r X) (JZ' := PMR (S.wA (up S.A (48 + (S.rows * S.A 0 + j)) t.v))) ?_ (fun Z hM h18 hJ => ⟨ms Z 121 (1808 + (S.rows * S.A 0 + j)) t.v, ?_, ms_mst hM (by decide) (by omega), by rw [ms_ne (by decide)]; exact h18, hJ.dep (by omega) (by omega), FrM.q (by omega)⟩)
            · refine PART.adv (kX := L_X3_takeRow_33 K ((j : Int) + 1)) (kZ := fun Z => cl (L_X12_aRow_42 K ((j : Int) + 1) Z) fun r X => B_X12_riverPart_230 r X) hT hK2 (PCR.st hr) PMR.st (fun k1 k2 => ?_) (fun X Y _ hJ e => ?_) (fun Z Y _ _ hJ e => ?_)
              · have e48 : ∀ k : Int, k < 48 → (S.wA (up S.A (48 + (S.rows * S.A 0 + j)) t.v)).A k = S.A k := fun k hk => by
                  show up S.A (48 + (S.rows * S.A 0 + j)) t.v k = S.A k
                  exact up_ne (by omega)
                exact ih (j + 1) _ _ (by omega) k1 (by omega) hs' (by rw [e48 1 (by decide)]; exact hrow) (by rw [e48 0 (by decide)]; omega) (fun h => by omega)
              · show (cl (f_X8_advance X) fun _ X17 => _) = _
                rw [e, cl_some]
              · show (cl (cl (f_X12_ahead Z) fun _ X10 => _) fun r X => _) = _
                rw [e, cl_some]
            · show (cl (L_X12_aRow_42 (K + 1) j Z) fun r X => B_X12_riverPart_230 r X) = _
              rw [e42 Z hM hJ, if_pos gv, if_pos gj, hcm, show (1808 : Int) + S.rows * S.A 0 + j = 1808 + (S.rows * S.A 0 + j) by omega, ax_ok (by omega) (by omega), bd_eq]
          · have c7 : X 35 7 = t.v := hC.2.2.2.2.2.2 g2
            rw [e54 X hC (Or.inl g2), B_X3_takeRow_54, isn_eq hK2 hC (inI_s (by decide) (by decide)) (inI_s (by decide) (by decide)), if_pos g2, if_pos ⟨hv.1, gv⟩, cl_some, c1_1, n10, hJ.1.1, cm_ok hr, hJ.2.1.1.1, c2_ok (by omega) (by omega) (by omega) (by omega), if_pos (by omega), cm_ok hr, cm_ok hr, hJ.1.2.1, c7, ax_ok (by omega) (by omega), bd_eq]
      · refine PART.bad 4 (by decide) hn hK2 (fun X h => h.rb) (RB.st hr) (fun X hC hJ => ?_) (fun Z hM h18 hJ => ?_)
        · rw [e54 X hC (Or.inl g2), B_X3_takeRow_54, isn_eq hK2 hC (inI_s (by decide) (by decide)) (inI_s (by decide) (by decide)), if_pos g2, if_neg (fun h => gv h.2), cl_some, c1_0, n00]
        · show (cl (L_X12_aRow_42 (K + 1) j Z) fun r X => B_X12_riverPart_230 r X) = _
          rw [e42 Z hM hJ, if_neg gv, B_X12_aRow_59, fails_eq hK2 hM h18, cl_some, cz_0, cl_some, B230_0, if_neg (by omega)]
    · have hj1 : 1 ≤ j := by
        by_cases g : j = 0
        · exact absurd (h0 g) g2
        · omega
      have e122 : ∀ Z : Mem, MSt Z T n t → L_X12_aRow_42 (K + 1) j Z = B_X12_aRow_122 j Z := fun Z hM => by
        rw [L_X12_aRow_42, hM.2.2.1, c2_ok (by omega) (by omega) (by decide) (by decide), if_pos (fun h => g2 (k4.mp h))]
      by_cases g3 : t.k = 3
      · have e132 : ∀ X : Mem, CSt X T n t → L_X3_takeRow_33 (K + 1) j X = B_X3_takeRow_132 j X := fun X hC => by
          have c4 : X 35 4 = t.k := hC.2.2.2.1
          rw [L_X3_takeRow_33, c2_ok (by omega) (by omega) (by decide) (by decide), if_neg (by omega), c1_okk (by omega) (by omega), if_neg (by omega), c4, c2_ok (by omega) (by omega) (by decide) (by decide), if_pos g3]
        by_cases gj : S.A 0 ≤ (j : Int)
        · refine PART.mapX (PART.mapZ (end_sign (S := S.wr (S.rows + 1)) hr hn hT hK2 (by omega) (hs.wr hrow)) (fun Z hM h18 hJ => ⟨ms Z 120 20 (S.rows + 1), ?_, ms_mst hM (by decide) (by omega), by rw [ms_at, if_neg (by omega)]; exact h18, hJ.wr, FrM.s (by omega)⟩)) (fun X hC hJ => ⟨ms X 37 2 (S.rows + 1), ?_, ms_cst hC (by decide) (by decide), hJ.wr hr, ms_frC (Or.inl rfl) (by decide)⟩)
          · have e0 : Z 121 1760 = S.A 0 := hJ.2.1 0 (by decide) (by decide)
            show (cl (L_X12_aRow_42 (K + 1) j Z) fun r X => B_X12_riverPart_230 r X) = _
            rw [e122 Z hM, B_X12_aRow_122, isg hK2 hM, if_pos g3, cl_some, c1_1, i10, e0, ax_ok (by decide) (by decide), c2_ok (by omega) (by omega) (by omega) (by omega), if_pos gj, B_X12_aRow_150, hJ.1.1, bd_eq, cl_some]
          · rw [e132 X hC, B_X3_takeRow_132, hJ.1.1, cm_ok hr, hJ.2.1.1.1, c2_ok (by omega) (by omega) (by omega) (by omega), if_pos gj, hJ.1.2.1, bd_eq]
        · refine PART.bad 7 (by decide) hn hK2 (fun X h => h.rb) (RB.st hr) (fun X hC hJ => ?_) (fun Z hM h18 hJ => ?_)
          · rw [e132 X hC, B_X3_takeRow_132, hJ.1.1, cm_ok hr, hJ.2.1.1.1, c2_ok (by omega) (by omega) (by omega) (by omega), if_neg gj, fail8_eq hC, cl_some, cz_0]
          · have e0 : Z 121 1760 = S.A 0 := hJ.2.1 0 (by decide) (by decide)
            show (cl (L_X12_aRow_42 (K + 1) j Z) fun r X => B_X12_riverPart_230 r X) = _
            rw [e122 Z hM, B_X12_aRow_122, isg hK2 hM, if_pos g3, cl_some, c1_1, i10, e0, ax_ok (by decide) (by decide), c2_ok (by omega) (by omega) (by omega) (by omega), if_neg gj, fails_eq hK2 hM h18, cl_some, cz_0, cl_some, B230_0, if_neg (by omega)]
      · refine PART.mapZ (gZ' := B_X12_riverPart_230 1) (JZ' := fun _ => True) ?_ (fun Z hM h18 hJ => ⟨ms Z 120 20 (S.rows + 1), ?_, ms_mst hM (by decide) (by omega), by rw [ms_at, if_neg (by omega)]; exact h18, trivial, FrM.s (by omega)⟩)
        · refine PART.bad (hereF t 2) hereF_r hn hK2 (fun X h => h.rb) (RB.st hr) (fun X hC hJ => ?_) (fun Z hM h18 hJ => ?_)
          · rw [e54 X hC (Or.inr (Or.inl g3)), B_X3_takeRow_54, isn_eq hK2 hC (inI_s (by decide) (by decide)) (inI_s (by decide) (by decide)), if_neg g2, cl_some, c1_0, n00]
          · exact sign_Z (Or.inl rfl) ((wsg hT hK2 hM h18).2 g3)
        · show (cl (L_X12_aRow_42 (K + 1) j Z) fun r X => B_X12_riverPart_230 r X) = _
          rw [e122 Z hM, B_X12_aRow_122, isg hK2 hM, if_neg g3, cl_some, c1_0, i00, B_X12_aRow_150, hJ.1.1, bd_eq, cl_some]
theorem part_row {T : Int → Int} {n p r : Int} {t : Tok} {S : Riv} (hr : r ∈ RIV) (hn : n ≤ 900) (hT : TXT T n) (hK : TKt T n t) (hp : p ≤ t.e) (hs : GdR S) (hq : t33 T t = 1) : PRV T n p r t (PCR r S) (PMR S) f_X3_takeRow (B_X12_riverPart_61 1) := by
  have hk := t33_k (T := T) (t := t) (by rw [hq]; decide)
  have hrr := RIV_c hr
  have hA1 : 2 ≤ S.A 0 ∧ S.A 0 ≤ 10 ∧ 2 ≤ S.A 1 ∧ S.A 1 ≤ 6 := by
    have := hs.2.1
    have := hs.1.1
    omega
  have hr0 := hs.2.2.1
  have e61 : ∀ Z : Mem, B_X12_riverPart_61 1 Z = cl (f_X12_aRow Z) fun r46 X47 => B_X12_riverPart_230 r46 X47 := fun Z => by
    unfold B_X12_riverPart_61
    rw [c1_okk (by decide) (by decide), if_pos rfl]
  have eA : ∀ Z : Mem, PMR S Z → Z 121 1761 = S.A 1 := fun Z h => h.2.1 1 (by decide) (by decide)
  by_cases g : S.rows < S.A 1
  · refine PART.adv (kX := L_X3_takeRow_33 KF 0) (kZ := fun Z => cl (c2 (Z 120 12) 3 <| if (Z 120 12) = 3 then L_X12_aRow_42 KF 0 Z else cl (f_X12_fails 2 Z) fun r15 X16 => cz r15 (some (r15, X16))) fun r X => B_X12_riverPart_230 r X) hT hK (PCR.st hr) PMR.st (fun k1 k2 => ?_) (fun X Y _ hJ e => ?_) (fun Z Y _ _ hJ e => ?_)
    · generalize nx T n t.e = t1 at *
      have hr1 := k1.r
      obtain ⟨q1, q2, q3, q4, q5, q6⟩ := kr k1
      by_cases g2 : t1.k = 2
      · have h := row_loop (p := p) hr hn hT KF 0 t1 S (by rw [KF_eq]; omega) k1 (by omega) hs g (by omega) (fun _ => g2)
        refine PART.mapZ (JZ' := PMR S) h (fun Z hM h18 hJ => ⟨Z, ?_, hM, h18, hJ, FrM.rfl'⟩)
        show (cl (c2 (Z 120 12) 3 <| if (Z 120 12) = 3 then L_X12_aRow_42 KF 0 Z else cl (f_X12_fails 2 Z) fun r15 X16 => cz r15 (some (r15, X16))) fun r X => B_X12_riverPart_230 r X) = _
        rw [hM.2.2.1, c2_ok (by omega) (by omega) (by decide) (by decide), if_pos (q4.mpr g2)]
        rfl
      · refine PART.bad (hereF t1 2) hereF_r hn k1 (fun X h => h.rb) (RB.st hr) (fun X hC hJ => ?_) (fun Z hM h18 hJ => ?_)
        · obtain ⟨KF', hKF⟩ : ∃ k' : Nat, KF = k' + 1 := ⟨4611686018427387903, by rw [KF_eq]⟩
          rw [hKF, L_X3_takeRow_33, c2_ok (by decide) (by decide) (by decide) (by decide), if_neg (by decide), c1_0, i00, B_X3_takeRow_54, isn_eq k1 hC (inI_s (by decide) (by decide)) (inI_s (by decide) (by decide)), if_neg g2, cl_some, c1_0, n00]
        · show (cl (c2 (Z 120 12) 3 <| if (Z 120 12) = 3 then L_X12_aRow_42 KF 0 Z else cl (f_X12_fails 2 Z) fun r15 X16 => cz r15 (some (r15, X16))) fun r X => B_X12_riverPart_230 r X) = _
          rw [hM.2.2.1, c2_ok (by omega) (by omega) (by decide) (by decide), if_neg (fun h => g2 (q4.mp h)), fails_eq k1 hM h18, cl_some, cz_0, cl_some, B230_0]
          rfl
    · unfold f_X3_takeRow
      rw [hJ.1.1, cm_ok hr, hJ.1.2.1, hJ.2.1.1.2.1, c2_ok (by omega) (by omega) (by omega) (by omega), if_pos g, e, cl_some]
    · rw [e61]
      unfold f_X12_aRow
      rw [eA Z hJ, hJ.1.1, ax_ok (by decide) (by decide), c2_ok (by omega) (by omega) (by omega) (by omega), if_pos (by omega), e, cl_some]
  · refine PART.bad 6 (by decide) hn hK (fun X h => h.rb) (RB.st hr) (fun X hC hJ => ?_) (fun Z hM h18 hJ => ?_)
    · unfold f_X3_takeRow
      rw [hJ.1.1, cm_ok hr, hJ.1.2.1, hJ.2.1.1.2.1, c2_ok (by omega) (by omega) (by omega) (by omega), if_neg g, fail8_eq hC, cl_some, cz_0]
    · rw [e61]
      unfold f_X12_aRow
      rw [eA Z hJ, hJ.1.1, ax_ok (by decide) (by decide), c2_ok (by omega) (by omega) (by omega) (by omega), if_neg (by omega), fails_eq hK hM h18, cl_some, cz_0, cl_some, B230_0, if_neg (by omega)]
