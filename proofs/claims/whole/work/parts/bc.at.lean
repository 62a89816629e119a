/-! rivers: at -/
theorem pair_as {lo hi : Int} {Y : Mem} {K : Mem → Option (Int × Mem)} : (cl (cl (f_X8_takeNumber lo hi Y) fun r3 X4 => c1 r3 <| if r3 = 0 then some (0, X4) else some (1, X4)) fun r19 X20 => c1 r19 <| if ¬ r19 = 0 then K X20 else some (0, X20)) = (cl (f_X8_takeNumber lo hi Y) fun r X => c1 r <| if ¬ r = 0 then K X else some (0, X)) := by
  match f_X8_takeNumber lo hi Y with
  | none => rfl
  | some (r, X) =>
    show cl (c1 r (if r = 0 then some (0, X) else some (1, X))) _ = c1 r (if ¬ r = 0 then K X else some (0, X))
    by_cases g : -2147483648 ≤ r ∧ r ≤ 2147483647
    · rw [c1_okk g.1 g.2, c1_okk g.1 g.2]
      by_cases h : r = 0
      · rw [if_pos h, if_neg (by simpa using h), cl_some, c1_0, n00]
      · rw [if_neg h, if_pos h, cl_some, c1_1, n10]
    · unfold c1
      rw [if_neg g, if_neg g]
      rfl
def PMQ (S : Riv) (c : Int → Int) (k : Int) (Z : Mem) : Prop := PMR S Z ∧ ∀ i : Int, 0 ≤ i → i < k → Z 128 i = c i
theorem PMQ.st {S : Riv} {c : Int → Int} {k : Int} : StM (PMQ S c k) := fun Z R hR h => ⟨PMR.st Z R hR h.1, fun i a b => by rw [ma_ne (by decide)]; exact h.2 i a b⟩
theorem FrM.x {Z : Mem} {k v : Int} : FrM Z (ms Z 128 k v) := ⟨fun i _ _ _ d => ms_ne d, fun q _ => by rw [ms_ne (by decide)], fun q _ => by rw [ms_ne (by decide)], fun q _ => by rw [ms_ne (by decide)]⟩
theorem PMQ.up {S : Riv} {c : Int → Int} {k v : Int} {Z : Mem} (h : PMQ S c k Z) : PMQ S (up c k v) (k + 1) (ms Z 128 k v) := by
  refine ⟨h.1.fr (by rw [ms_ne (by decide)]) (by rw [ms_ne (by decide)]) (ms_ne (by decide)) (ms_ne (by decide)), fun i a b => ?_⟩
  rw [ms_at, up_at]
  by_cases g : i = k
  · rw [if_pos ⟨rfl, g⟩, if_pos g]
  · rw [if_neg (fun h => g h.2), if_neg g]
    exact h.2 i a (by omega)
def atLo (c : Int → Int) (j : Nat) : Int := if 2 ≤ j then c ((j : Int) - 2) else 0
theorem b74 {T : Int → Int} {n : Int} {t : Tok} {S : Riv} {c : Int → Int} {j : Nat} {bar : Int} {Z : Mem} (hK : TKt T n t) (hM : MSt Z T n t) (h18 : Z 120 18 = 0) (hJ : PMQ S c j Z) (hj : j ≤ 3) (hs : GdR S) (hc : ∀ i : Int, 0 ≤ i → i < j → 0 ≤ c i ∧ c i ≤ 10) (go : Int → Int → Mem → Option (Int × Mem)) : B_X12_someCells_74 go bar j Z = if t.k = 2 then (if atLo c j ≤ t.v ∧ t.v ≤ S.A ((j : Int) % 2) - 1 then (if 3 ≤ (j : Int) then go bar ((j : Int) + 1) (ms Z 128 j t.v) else cl (f_X12_ahead (ms Z 128 j t.v)) fun _ X22 => go bar ((j : Int) + 1) X22) else some (0, flM Z 4 t.b)) else some (0, flM Z (hereF t 2) t.b) := by
  obtain ⟨k1, k2, k3, k4, k5, k6⟩ := kr hK
  obtain ⟨m1, m2, m3, m4, m5, m6, m7⟩ := id hM
  have hA1 : 2 ≤ S.A 0 ∧ S.A 0 ≤ 10 ∧ 2 ≤ S.A 1 ∧ S.A 1 ≤ 6 := by
    have := hs.2.1
    have := hs.1.1
    omega
  rw [B_X12_someCells_74, m3, c2_ok (by omega) (by omega) (by decide) (by decide)]
  by_cases g2 : t.k = 2
  · have hv := k6 g2
    have h131 : B_X12_someCells_131 Z = some (0, flM Z 4 t.b) := by
      rw [B_X12_someCells_131, fails_eq hK hM h18, cl_some, cz_0, if_neg (by omega)]
    have hm : (j : Int) % 2 = 0 ∨ (j : Int) % 2 = 1 := by omega
    have hAm : Z 121 (1760 + (j : Int) % 2) = S.A ((j : Int) % 2) := hJ.1.2.1 _ (by omega) (by omega)
    have hAr : 2 ≤ S.A ((j : Int) % 2) ∧ S.A ((j : Int) % 2) ≤ 10 := by
      rcases hm with h | h <;> rw [h] <;> omega
    have e109 : ∀ s0 : Int, (0 ≤ s0 ∧ s0 ≤ 10) → B_X12_someCells_109 go bar j s0 t.v Z = if s0 ≤ t.v ∧ t.v ≤ S.A ((j : Int) % 2) - 1 then (if 3 ≤ (j : Int) then go bar ((j : Int) + 1) (ms Z 128 j t.v) else cl (f_X12_ahead (ms Z 128 j t.v)) fun _ X22 => go bar ((j : Int) + 1) X22) else some (0, flM Z 4 t.b) := fun s0 hs0 => by
      rw [B_X12_someCells_109, c2_ok (by omega) (by omega) (by omega) (by omega)]
      by_cases g : t.v < s0
      · rw [if_pos g, h131, if_neg (by omega)]
      · have ecd : ∀ k : Option (Int × Mem), cd (j : Int) 2 k = k := fun k => if_pos ⟨⟨by omega, by omega⟩, by decide, by decide⟩
        rw [if_neg g, ecd, ax_ok (by omega) (by omega), hAm, m6 g2, c2_ok (by omega) (by omega) (by omega) (by omega)]
        by_cases gh : t.v < S.A ((j : Int) % 2)
        · rw [if_pos gh, if_pos ⟨by omega, by omega⟩, ax_ok (by omega) (by omega), bd_eq, c2_ok (by omega) (by omega) (by decide) (by decide)]
          by_cases g3 : 3 ≤ (j : Int)
          · rw [if_pos g3, if_pos g3, B_X12_someCells_156]
          · rw [if_neg g3, if_neg g3]
            rfl
        · rw [if_neg gh, h131, if_neg (by omega)]
    rw [if_pos (k4.mpr g2), if_pos g2, m6 g2, c2_ok (by omega) (by omega) (by decide) (by decide)]
    unfold atLo
    by_cases gj : 2 ≤ j
    · have hcj := hc ((j : Int) - 2) (by omega) (by omega)
      rw [if_pos (by omega), if_pos gj, ax_ok (by omega) (by omega), hJ.2 _ (by omega) (by omega), e109 _ hcj]
    · rw [if_neg (by omega), if_neg gj, e109 0 (by decide)]
  · rw [if_neg (fun h => g2 (k4.mp h)), if_neg g2, B_X12_someCells_82, fails_eq hK hM h18, cl_some, cz_0]
    rfl
theorem numF_4 {t : Tok} {lo hi : Int} (hk : t.k = 2) (h : ¬ (lo ≤ t.v ∧ t.v ≤ hi)) : numF t lo hi = 4 := by
  unfold numF
  rw [if_pos hk, if_neg h]
theorem numF_h {t : Tok} {lo hi : Int} (hk : t.k ≠ 2) : numF t lo hi = hereF t 2 := by
  unfold numF
  rw [if_neg hk]
noncomputable def nK (lo hi : Int) (K : Int → Mem → Option (Int × Mem)) (X : Mem) : Option (Int × Mem) := cl (f_X8_takeNumber lo hi X) fun r11 X12 => c1 r11 <| if ¬ r11 = 0 then bd (X12 35 8) fun v => K v X12 else some (0, X12)
theorem at_num {T : Int → Int} {n p r : Int} {t : Tok} {S : Riv} {c : Int → Int} {j : Nat} {bar lo hi : Int} {K : Int → Mem → Option (Int × Mem)} {go : Int → Int → Mem → Option (Int × Mem)} (hr : r ∈ RIV) (hn : n ≤ 900) (hT : TXT T n) (hK : TKt T n t) (hs : GdR S) (hj : j < 3) (hc : ∀ i : Int, 0 ≤ i → i < j → 0 ≤ c i ∧ c i ≤ 10) (hlo : lo = atLo c j) (hhi : hi = S.A ((j : Int) % 2) - 1)
    (h : ∀ v : Int, lo ≤ v → v ≤ hi → TKt T n (nx T n t.e) → t.e ≤ (nx T n t.e).b → PRV T n p r (nx T n t.e) (PCR r S) (PMQ S (up c j v) (j + 1)) (K v) (fun Z => cl (go bar ((j : Int) + 1) Z) fun r X => B_X12_riverPart_230 r X)) : PRV T n p r t (PCR r S) (PMQ S c j) (nK lo hi K) (fun Z => cl (B_X12_someCells_74 go bar j Z) fun r X => B_X12_riverPart_230 r X) := by
  have hrr := RIV_c hr
  have hA1 : 2 ≤ S.A 0 ∧ S.A 0 ≤ 10 ∧ 2 ≤ S.A 1 ∧ S.A 1 ≤ 6 := by
    have := hs.2.1
    have := hs.1.1
    omega
  have hm : (j : Int) % 2 = 0 ∨ (j : Int) % 2 = 1 := by omega
  have hAr : 2 ≤ S.A ((j : Int) % 2) ∧ S.A ((j : Int) % 2) ≤ 10 := by
    rcases hm with h | h <;> rw [h] <;> omega
  have hlr : 0 ≤ lo ∧ lo ≤ 10 := by
    rw [hlo]
    unfold atLo
    split
    · exact hc _ (by omega) (by omega)
    · decide
  by_cases g : t.k = 2 ∧ lo ≤ t.v ∧ t.v ≤ hi
  · obtain ⟨k1, k2⟩ := nx_t hT hK
    refine (h t.v g.2.1 g.2.2 k1 k2).go (fun X hC hJ => ?_) (fun Z hM h18 hJ => ?_)
    · obtain ⟨R, r1, r2, r3, r4⟩ := tn8_y hT hK hC (inI_s (by omega) (by omega)) (inI_s (by omega) (by omega)) g
      refine ⟨_, ?_, r2, PCR.st hr _ _ hJ, ⟨fun i a _ => ma_ne a, fun q a => by rw [ma_same]; exact r4 q (by omega)⟩⟩
      rw [nK, r1, cl_some, c1_1, n10, ma_same, r3, bd_eq]
    · obtain ⟨R, r1, r2, r3⟩ := adv12 hT hK (ms_mst (i := 128) (k := j) (v := t.v) hM (by decide) (by omega))
      have hJ' := hJ.up (v := t.v)
      refine ⟨_, ?_, r2, by rw [ma_same, r3 18 (by decide), ms_ne (by decide)]; exact h18, PMQ.st _ _ (fun q a _ _ => r3 q a) hJ', FrM.x.trans (FrM.a r3)⟩
      show (cl (B_X12_someCells_74 go bar j Z) fun r X => B_X12_riverPart_230 r X) = _
      rw [b74 hK hM h18 hJ (by omega) hs hc, if_pos g.1, if_pos ⟨by rw [← hlo]; exact g.2.1, by rw [← hhi]; exact g.2.2⟩, if_neg (by omega), r1, cl_some]
  · refine PART.bad (numF t lo hi) (numF_r g) hn hK (fun X h => h.rb) (RB.st hr) (fun X hC hJ => ?_) (fun Z hM h18 hJ => ?_)
    · rw [nK, (tn8_n hK hC (inI_s (by omega) (by omega)) (inI_s (by omega) (by omega)) g).1, cl_some, c1_0, n00]
    · show (cl (B_X12_someCells_74 go bar j Z) fun r X => B_X12_riverPart_230 r X) = _
      rw [b74 hK hM h18 hJ (by omega) hs hc]
      by_cases gk : t.k = 2
      · rw [if_pos gk, if_neg (fun h => g ⟨gk, by rw [hlo]; exact h.1, by rw [hhi]; exact h.2⟩), cl_some, B230_0, numF_4 gk (fun h => g ⟨gk, h⟩)]
      · rw [if_neg gk, cl_some, B230_0, numF_h gk]
/-- the last number and the cells -/
noncomputable def aK4 (r6 v13 v17 v21 : Int) (X20 : Mem) : Option (Int × Mem) := cm RIV (X20 37 1) <| cl (f_X8_isNumber v17 ((X20 (X20 37 1) 1) - 1) X20) fun r23 X24 => c1 r23 <| if ¬ r23 = 0 then cl (f_X3_giveCells r6 v13 v17 v21 (X24 35 7) X24) fun r25 X26 => c1 r25 <| if ¬ r25 = 0 then cl (f_X8_advance X26) fun _ X28 => cl (f_X8_takeSign X28) fun r29 X30 => cz r29 (some (r29, X30)) else cl (f_X8_fail 5 X26) fun r31 X32 => cz r31 (some (r31, X32)) else some (0, X24)
theorem at_last {T : Int → Int} {n p r : Int} {t : Tok} {S : Riv} {c : Int → Int} {bar l u ri : Int} {kf : Nat} (hr : r ∈ RIV) (hn : n ≤ 900) (hT : TXT T n) (hK : TKt T n t) (hp : p ≤ t.e) (hs : GdR S) (hb : 0 ≤ bar ∧ bar < S.A 2) (hl : 0 ≤ l ∧ l ≤ ri ∧ ri < S.A 0) (hu : 0 ≤ u ∧ u < S.A 1) (c0 : c 0 = l) (c1' : c 1 = u) (c2' : c 2 = ri) : PRV T n p r t (PCR r S) (PMQ S c 3) (aK4 bar l u ri) (fun Z => cl (B_X12_someCells_74 (fun x1 x2 X => L_X12_someCells_51 (kf + 1) x1 x2 X) bar 3 Z) fun r X => B_X12_riverPart_230 r X) := by
  have hrr := RIV_c hr
  have htr := hK.r
  have hA1 : 2 ≤ S.A 0 ∧ S.A 0 ≤ 10 ∧ 2 ≤ S.A 1 ∧ S.A 1 ≤ 6 := by
    have := hs.2.1
    have := hs.1.1
    omega
  have hob : ∀ c : Int, 0 ≤ c → c < 60 → -1 ≤ S.A (108 + c) ∧ S.A (108 + c) < S.A 2 := hs.1.2.2.2.2.2.2.2.2.2.2.2.2.2.2.2.2.2
  have hc : ∀ i : Int, 0 ≤ i → i < ((3 : Nat) : Int) → 0 ≤ c i ∧ c i ≤ 10 := fun i i0 i1 => by
    rcases (show i = 0 ∨ i = 1 ∨ i = 2 by omega) with rfl | rfl | rfl <;> omega
  have hlo : atLo c 3 = u := by
    show c 1 = u
    exact c1'
  have hhi : S.A (((3 : Nat) : Int) % 2) - 1 = S.A 1 - 1 := rfl
  have e74 : ∀ Z : Mem, MSt Z T n t → Z 120 18 = 0 → PMQ S c 3 Z → B_X12_someCells_74 (fun x1 x2 X => L_X12_someCells_51 (kf + 1) x1 x2 X) bar 3 Z = if t.k = 2 then (if u ≤ t.v ∧ t.v ≤ S.A 1 - 1 then B_X12_someCells_162 bar (ms Z 128 3 t.v) else some (0, flM Z 4 t.b)) else some (0, flM Z (hereF t 2) t.b) := fun Z hM h18 hJ => by
    have h := b74 (j := 3) (bar := bar) hK hM h18 hJ (by omega) hs hc (fun x1 x2 X => L_X12_someCells_51 (kf + 1) x1 x2 X)
    rw [hlo, hhi, if_pos (show (3 : Int) ≤ ((3 : Nat) : Int) by decide)] at h
    have e51 : ∀ Y : Mem, L_X12_someCells_51 (kf + 1) bar (((3 : Nat) : Int) + 1) Y = B_X12_someCells_162 bar Y := fun Y => by
      rw [L_X12_someCells_51, c2_ok (by decide) (by decide) (by decide) (by decide), if_pos (by decide)]
    rw [e51] at h
    exact h
  by_cases g : t.k = 2 ∧ u ≤ t.v ∧ t.v ≤ S.A 1 - 1
  · have hat : ATP S.A bar l u ri t.v := ⟨⟨hb.1, hb.2, hs.1.2.1.2⟩, hl, ⟨hu.1, g.2.1, by omega⟩, ⟨hA1.1, hA1.2.1⟩, hA1.2.2⟩
    have nob : ∀ c : Int, rcP (S.A 0) l u ri t.v c → bef (S.A 0) u l c → S.A (108 + c) = -1 := fun c h1 h2 => by
      rcases h2 with h | h
      · have := h1.1; omega
      · have := h1.2.2.1; omega
    have hX : ∀ X : Mem, CSt X T n t → PCR r S X → ∃ Y : Mem, ((f_X3_giveCells bar l u ri (X 35 7) X = some (1, Y) ∧ PCR r (S.wA (Amod S.A bar (S.A 0) l u ri t.v (t.v + 1) l)) Y ∧ AF S.A (S.A 0) l u ri t.v) ∨ (f_X3_giveCells bar l u ri (X 35 7) X = some (0, Y) ∧ (∃ S' : Riv, PCR r S' Y) ∧ ¬ AF S.A (S.A 0) l u ri t.v)) ∧ (∀ i : Int, i ≠ r + 2 → i ≠ r + 9 → Y i = X i) := fun X hC hJ => by
      have c7 : X 35 7 = t.v := hC.2.2.2.2.2.2 g.1
      rw [c7]
      exact gives_3 hr hat hob KF u X (Int.le_refl _) (by omega) (by rw [KF_eq]; omega) (by rw [Amod_0]; exact hJ) nob
    have hZ : ∀ Z : Mem, MSt Z T n t → PMQ S c 3 Z → (AF S.A (S.A 0) l u ri t.v ∧ ∃ Y : Mem, B_X12_someCells_162 bar (ms Z 128 3 t.v) = B_X12_someCells_283 Y ∧ PMR (S.wA (Amod S.A bar (S.A 0) l u ri t.v (t.v + 1) l)) Y ∧ (∀ i : Int, i ≠ 121 → Y i = ms Z 128 3 t.v i) ∧ ∀ q : Int, q < 1760 → Y 121 q = ms Z 128 3 t.v 121 q) ∨ (¬ AF S.A (S.A 0) l u ri t.v ∧ B_X12_someCells_162 bar (ms Z 128 3 t.v) = B_X12_someCells_239 (ms Z 128 3 t.v)) := fun Z hM hJ => by
      have hq := hJ.up (v := t.v)
      refine passes hq.1 ⟨?_, ?_, ?_, ?_⟩ hat hob
      · rw [ms_at, if_neg (by decide), hJ.2 0 (by decide) (by decide), c0]
      · rw [ms_at, if_neg (by decide), hJ.2 1 (by decide) (by decide), c1']
      · rw [ms_at, if_neg (by decide), hJ.2 2 (by decide) (by decide), c2']
      · rw [ms_at, if_pos ⟨rfl, rfl⟩]
    have ei : ∀ X : Mem, CSt X T n t → PCR r S X → aK4 bar l u ri X = cl (f_X3_giveCells bar l u ri (X 35 7) X) fun r25 X26 => c1 r25 <| if ¬ r25 = 0 then cl (f_X8_advance X26) fun _ X28 => cl (f_X8_takeSign X28) fun r29 X30 => cz r29 (some (r29, X30)) else cl (f_X8_fail 5 X26) fun r31 X32 => cz r31 (some (r31, X32)) := fun X hC hJ => by
      rw [aK4, hJ.1.1, cm_ok hr, hJ.2.1.1.2.1, isn_eq hK hC (inI_s (by omega) (by omega)) (inI_s (by omega) (by omega)), if_pos g.1, if_pos g.2, cl_some, c1_1, n10]
    by_cases ga : AF S.A (S.A 0) l u ri t.v
    · refine PART.mapX (gX' := fun X26 => cl (f_X8_advance X26) fun _ X28 => cl (f_X8_takeSign X28) fun r29 X30 => cz r29 (some (r29, X30))) (JX' := PCR r (S.wA (Amod S.A bar (S.A 0) l u ri t.v (t.v + 1) l))) ?_ (fun X hC hJ => ?_)
      · refine PART.mapZ (gZ' := fun Z => cl (B_X12_someCells_283 Z) fun r X => B_X12_riverPart_230 r X) (JZ' := PMR (S.wA (Amod S.A bar (S.A 0) l u ri t.v (t.v + 1) l))) ?_ (fun Z hM h18 hJ => ?_)
        · refine PART.adv (kX := fun X28 => cl (f_X8_takeSign X28) fun r29 X30 => cz r29 (some (r29, X30))) (kZ := B_X12_riverPart_230 1) hT hK (PCR.st hr) PMR.st (fun k1 k2 => ?_) (fun X Y _ hJ e => ?_) (fun Z Y _ _ hJ e => ?_)
          · exact end_sign hr hn hT k1 (by have := k1.r; omega) (hs.mod hb.1 hb.2)
          · show (cl (f_X8_advance X) fun _ X28 => _) = _
            rw [e, cl_some]
          · show (cl (B_X12_someCells_283 Z) fun r X => B_X12_riverPart_230 r X) = _
            rw [B_X12_someCells_283, e, cl_some, cl_some]
        · rcases hZ Z hM hJ with ⟨-, Y, y1, y2, y3, y4⟩ | ⟨h, -⟩
          · refine ⟨Y, ?_, ?_, ?_, y2, ⟨fun i a b _ d => by rw [y3 i b, ms_ne d], fun q _ => by rw [y3 120 (by decide), ms_ne (by decide)], fun q a => by rw [y4 q a, ms_ne (by decide)], fun q _ => by rw [y3 122 (by decide), ms_ne (by decide)]⟩⟩
            · show (cl (B_X12_someCells_74 (fun x1 x2 X => L_X12_someCells_51 (kf + 1) x1 x2 X) bar 3 Z) fun r X => B_X12_riverPart_230 r X) = _
              rw [e74 Z hM h18 hJ, if_pos g.1, if_pos g.2, y1]
            · exact hM.fr (by rw [y3 127 (by decide), ms_ne (by decide)]) (fun q _ _ => by rw [y3 120 (by decide), ms_ne (by decide)])
            · rw [y3 120 (by decide), ms_ne (by decide)]
              exact h18
          · exact absurd ga h
      · obtain ⟨Y, h1, h2⟩ := hX X hC hJ
        rcases h1 with ⟨a1, a2, a3⟩ | ⟨a1, a2, a3⟩
        · refine ⟨Y, ?_, hC.fr (h2 36 (by omega) (by omega)) (fun q _ _ => by rw [h2 35 (by omega) (by omega)]), a2, ⟨fun i a b => h2 i (fun e => b (Or.inr (by omega))) (fun e => b (Or.inr (by omega))), fun q _ => by rw [h2 35 (by omega) (by omega)]⟩⟩
          rw [ei X hC hJ, a1, cl_some, c1_1, n10]
        · exact absurd ga a3
    · refine Or.inr ⟨5, t.b, by decide, by omega, fun X hC hJ => ?_, fun Z hM h18 hJ => ?_⟩
      · obtain ⟨Y, h1, h2⟩ := hX X hC hJ
        rcases h1 with ⟨a1, a2, a3⟩ | ⟨a1, ⟨S', a2⟩, a3⟩
        · exact absurd a3 ga
        · have hC' : CSt Y T n t := hC.fr (h2 36 (by omega) (by omega)) (fun q _ _ => by rw [h2 35 (by omega) (by omega)])
          refine ⟨flC Y 5 t.b, ?_, flC_v.1, flC_v.2, ?_, FrC.trans (Y := Y) ⟨fun i a b => h2 i (fun e => b (Or.inr (by omega))) (fun e => b (Or.inr (by omega))), fun q _ => by rw [h2 35 (by omega) (by omega)]⟩ FrC.fl⟩
          · rw [ei X hC hJ, a1, cl_some, c1_0, n00, fail8_eq hC', cl_some, cz_0]
          · exact RB.fr a2.rb (fun i a b => flC_fr i (by omega))
      · rcases hZ Z hM hJ with ⟨h, -⟩ | ⟨-, y1⟩
        · exact absurd h ga
        · have hM' := ms_mst (i := 128) (k := 3) (v := t.v) hM (by decide) (by omega)
          have h18' : ms Z 128 3 t.v 120 18 = 0 := by rw [ms_ne (by decide)]; exact h18
          refine ⟨flM (ms Z 128 3 t.v) 5 t.b, ?_, flM_v.1, flM_v.2, FrM.x.trans FrM.fl⟩
          show (cl (B_X12_someCells_74 (fun x1 x2 X => L_X12_someCells_51 (kf + 1) x1 x2 X) bar 3 Z) fun r X => B_X12_riverPart_230 r X) = _
          rw [e74 Z hM h18 hJ, if_pos g.1, if_pos g.2, y1, B_X12_someCells_239, fails_eq hK hM' h18', cl_some, cz_0, cl_some, B230_0, if_neg (by omega)]
  · refine PART.bad (numF t u (S.A 1 - 1)) (numF_r g) hn hK (fun X h => h.rb) (RB.st hr) (fun X hC hJ => ?_) (fun Z hM h18 hJ => ?_)
    · rw [aK4, hJ.1.1, cm_ok hr, hJ.2.1.1.2.1, (tn8_n hK hC (inI_s (by omega) (by omega)) (inI_s (by omega) (by omega)) g).2, cl_some, c1_0, n00]
    · show (cl (B_X12_someCells_74 (fun x1 x2 X => L_X12_someCells_51 (kf + 1) x1 x2 X) bar 3 Z) fun r X => B_X12_riverPart_230 r X) = _
      rw [e74 Z hM h18 hJ]
      by_cases gk : t.k = 2
      · rw [if_pos gk, if_neg (fun h => g ⟨gk, h⟩), cl_some, B230_0, numF_4 gk (fun h => g ⟨gk, h⟩)]
      · rw [if_neg gk, cl_some, B230_0, numF_h gk]
