/-! rivers: the whole text -/
theorem parse_loop {T : Int → Int} {n r : Int} (hr : r ∈ RIV) (hn : n ≤ 900) (hT : TXT T n) : ∀ (K j : Nat) (t : Tok) (S : Riv), 902 - j < K → TKt T n t → GdR S → (j : Int) ≤ t.b →
    (∃ S' : Riv, GdR S' ∧ (∀ X : Mem, CSt X T n t → PCR r S X → ∃ Y : Mem, L_X3_parse_56 K j X = some (1, Y) ∧ PCR r S' Y ∧ FrC (WR r) X Y) ∧ ∀ Z : Mem, MSt Z T n t → Z 120 18 = 0 → PMR S Z → ∃ Y : Mem, L_X12_river_80 K 1 Z = B_X12_river_99 Y ∧ Y 120 18 = 0 ∧ PMR S' Y ∧ FrM Z Y) ∨
    (∃ f b : Int, (1 ≤ f ∧ f ≤ 7) ∧ (0 ≤ b ∧ b ≤ 900) ∧ (∀ X : Mem, CSt X T n t → PCR r S X → ∃ Y : Mem, L_X3_parse_56 K j X = some (0, Y) ∧ Y 35 9 = f ∧ Y 35 10 = b ∧ RB Y r ∧ FrB (WR r) X Y) ∧ ∀ Z : Mem, MSt Z T n t → Z 120 18 = 0 → PMR S Z → ∃ Y : Mem, L_X12_river_80 K 1 Z = B_X12_river_99 Y ∧ Y 120 18 = f ∧ Y 120 17 = b ∧ FrMB Z Y) := by
  intro K
  induction K with
  | zero => intro j t S h; omega
  | succ K ih =>
    intro j t S hK hK2 hs hj
    obtain ⟨k1, k2, k3, k4, k5, k6⟩ := kr hK2
    have htr := hK2.r
    by_cases g0 : t.k = 0
    · refine Or.inl ⟨S, hs, fun X hC hJ => ⟨X, ?_, hJ, FrC.rfl'⟩, fun Z hM h18 hJ => ⟨Z, ?_, h18, hJ, FrM.rfl'⟩⟩
      · have c4 : X 35 4 = t.k := hC.2.2.2.1
        rw [L_X3_parse_56, c2_ok (by omega) (by omega) (by decide) (by decide)]
        by_cases g9 : (900 : Int) ≤ (j : Int)
        · rw [if_pos g9]
        · rw [if_neg g9, c4, g0, c1_0, i00]
      · rw [L_X12_river_80, c1_1, i10, hM.2.2.1, k3.mpr g0, c1_0, i00]
    · have hlt : t.b < t.e := by
        rcases hK2.2 with ⟨h, -⟩ | ⟨-, h1, -⟩ | ⟨-, h1, -⟩ | ⟨-, h1⟩ | ⟨-, h1⟩
        · exact absurd h g0
        · exact h1
        · exact h1
        · exact h1
        · exact h1
      have e3 : (j : Int) + 1 = ((j + 1 : Nat) : Int) := rfl
      have eX : ∀ X : Mem, CSt X T n t → L_X3_parse_56 (K + 1) j X = cl (f_X3_takePart X) fun r14 X15 => c1 r14 <| if ¬ r14 = 0 then L_X3_parse_56 K ((j : Int) + 1) X15 else some (0, X15) := fun X hC => by
        have c4 : X 35 4 = t.k := hC.2.2.2.1
        rw [L_X3_parse_56, c2_ok (by omega) (by omega) (by decide) (by decide), if_neg (by omega), c4, c1_okk (by omega) (by omega), if_neg g0]
      have eZ : ∀ Z : Mem, MSt Z T n t → L_X12_river_80 (K + 1) 1 Z = cl (f_X12_riverPart Z) fun r18 X19 => L_X12_river_80 K r18 X19 := fun Z hM => by
        rw [L_X12_river_80, c1_1, i10, hM.2.2.1, c1_okk (by omega) (by omega), if_neg (fun h => g0 (k3.mp h))]
      rcases part_any (p := t.e) hr hn hT hK2 (Int.le_refl _) hs with ⟨t', S', h1, h2, h3, h4, h5⟩ | ⟨f, b, h1, h2, h4, h5⟩
      · have hs' : GdR S' := h3
        rcases ih (j + 1) t' S' (by omega) h2 hs' (by omega) with ⟨S2, a1, a2, a3⟩ | ⟨f, b, a0, a1, a2, a3⟩
        · refine Or.inl ⟨S2, a1, fun X hC hJ => ?_, fun Z hM h18 hJ => ?_⟩
          · obtain ⟨Y, y1, y2, y3, y4⟩ := h4 X hC hJ
            obtain ⟨V, v1, v2, v3⟩ := a2 Y y2 y3
            exact ⟨V, by rw [eX X hC, y1, cl_some, c1_1, n10, e3, v1], v2, y4.trans v3⟩
          · obtain ⟨Y, y1, y2, y3, y4, y5⟩ := h5 Z hM h18 hJ
            obtain ⟨V, v1, v2, v3, v4⟩ := a3 Y y2 y3 y4
            exact ⟨V, by rw [eZ Z hM, y1, cl_some, v1], v2, v3, y5.trans v4⟩
        · refine Or.inr ⟨f, b, a0, a1, fun X hC hJ => ?_, fun Z hM h18 hJ => ?_⟩
          · obtain ⟨Y, y1, y2, y3, y4⟩ := h4 X hC hJ
            obtain ⟨V, v1, v2, v3, v4, v5⟩ := a2 Y y2 y3
            exact ⟨V, by rw [eX X hC, y1, cl_some, c1_1, n10, e3, v1], v2, v3, v4, y4.trans v5⟩
          · obtain ⟨Y, y1, y2, y3, y4, y5⟩ := h5 Z hM h18 hJ
            obtain ⟨V, v1, v2, v3, v4⟩ := a3 Y y2 y3 y4
            exact ⟨V, by rw [eZ Z hM, y1, cl_some, v1], v2, v3, y5.trans v4⟩
      · refine Or.inr ⟨f, b, h1, h2, fun X hC hJ => ?_, fun Z hM h18 hJ => ?_⟩
        · obtain ⟨Y, y1, y2, y3, y4, y5⟩ := h4 X hC hJ
          exact ⟨Y, by rw [eX X hC, y1, cl_some, c1_0, n00], y2, y3, y4, y5⟩
        · obtain ⟨Y, y1, y2, y3, y4⟩ := h5 Z hM h18 hJ
          obtain ⟨K', rfl⟩ : ∃ K', K = K' + 1 := ⟨K - 1, by omega⟩
          exact ⟨Y, by rw [eZ Z hM, y1, cl_some, L_X12_river_80, c1_0, i00], y2, y3, y4⟩
/-! the beginning: size -/
noncomputable def plA : Int → Int := plF (fun _ => 0) 0
theorem plA_v : plA 0 = 0 ∧ plA 1 = 0 ∧ plA 2 = 0 ∧ plA 3 = 0 ∧ plA 4 = 0 ∧ plA 5 = 4 ∧ plA 6 = 0 ∧ plA 7 = 10 ∧ plA 8 = 14 ∧ plA 9 = 1 ∧ plA 10 = 120 ∧ plA 11 = 12 ∧ plA 12 = 11 ∧ plA 13 = 0 ∧ plA 14 = 0 := by
  unfold plA plF up fl
  decide
theorem plA_0 {q : Int} (h : 13 ≤ q) (h2 : q < 108) : plA q = 0 := by
  unfold plA plF up fl
  repeat rw [if_neg (by omega)]
  split <;> rfl
theorem plA_m {q : Int} (h : 108 ≤ q) (h2 : q < 168) : plA q = -1 := by
  unfold plA plF up fl
  rw [if_neg (by omega), if_neg (by omega), if_neg (by omega), if_neg (by omega), if_neg (by omega), if_neg (by omega), if_neg (by omega), if_neg (by omega), if_pos (by omega)]
theorem plA_s {f : Int → Int} {q : Int} (h : 0 ≤ q) (h2 : q < 200) : plF f 1760 (1760 + q) = plA q := by
  unfold plA plF up fl
  by_cases g1 : q = 168
  · subst g1; rfl
  by_cases g2 : q = 12
  · subst g2; rfl
  by_cases g3 : q = 11
  · subst g3; rfl
  by_cases g4 : q = 10
  · subst g4; rfl
  by_cases g5 : q = 9
  · subst g5; rfl
  by_cases g6 : q = 8
  · subst g6; rfl
  by_cases g7 : q = 7
  · subst g7; rfl
  by_cases g8 : q = 5
  · subst g8; rfl
  by_cases g9 : 108 ≤ q ∧ q < 168
  · have e1 : ∀ x : Int, x = -1 → x = up (up (up (up (up (up (up (up (fl (fl (fun _ => (0 : Int)) 0 (0 + 200) 0) (0 + 108) (0 + 168) (-1)) (0 + 5) 4) (0 + 7) 10) (0 + 8) 14) (0 + 9) 1) (0 + 10) 120) (0 + 11) 12) (0 + 12) 11) (0 + 168) 1000000 q := fun x hx => by
      have := plA_m g9.1 g9.2
      rw [hx]
      exact this.symm
    refine e1 _ ?_
    rw [if_neg (by omega), if_neg (by omega), if_neg (by omega), if_neg (by omega), if_neg (by omega), if_neg (by omega), if_neg (by omega), if_neg (by omega), if_pos (by omega)]
  · rw [if_neg (by omega), if_neg (by omega), if_neg (by omega), if_neg (by omega), if_neg (by omega), if_neg (by omega), if_neg (by omega), if_neg (by omega), if_neg (by omega), if_pos (by omega)]
    symm
    rw [if_neg (by omega), if_neg (by omega), if_neg (by omega), if_neg (by omega), if_neg (by omega), if_neg (by omega), if_neg (by omega), if_neg (by omega), if_neg (by omega), if_pos (by omega)]
theorem plF_o {f : Int → Int} {q : Int} (h : q < 1760) : plF f 1760 q = f q := by
  unfold plF up fl
  repeat rw [if_neg (by omega)]
noncomputable def S0 : Riv := (plA, fun _ => 0, 0, 0, 0, 0, 0)
theorem clr_o {r : Int} {X : Mem} {i : Int} (h : i < r ∨ r + 3 < i) : clr r X i = X i := by
  unfold clr
  rw [ma_ne (by omega), ma_ne (by omega), ma_ne (by omega), ma_ne (by omega)]
theorem clr_RV {r : Int} {X : Mem} (h : RB X r) : RV (clr r X) r plA := by
  obtain ⟨v0, v1, v2, v3, v4, v5, v6, v7, v8, v9, v10, v11, v12, v13, v14⟩ := plA_v
  have e0 : clr r X r = clrF (X r) := by
    unfold clr
    rw [ma_ne (by omega), ma_ne (by omega), ma_ne (by omega), ma_same]
  have e1 : clr r X (r + 1) = fl (X (r + 1)) 0 60 0 := by
    unfold clr
    rw [ma_ne (by omega), ma_ne (by omega), ma_same]
  have e2 : clr r X (r + 2) = fl (X (r + 2)) 0 60 (-1) := by
    unfold clr
    rw [ma_ne (by omega), ma_same]
  have e3 : clr r X (r + 3) = fl (X (r + 3)) 0 12 0 := by
    unfold clr
    rw [ma_same]
  refine ⟨?_, fun c c0 c1 => ?_, fun c c0 c1 => ?_, fun d d0 d1 => ?_, fun b b0 b1 => by omega, fun b b0 b1 => by omega, fun b b0 b1 => ?_⟩
  · rw [e0, v0, v1, v2, v5, v6, v7, v8, v9, v10, v11, v12]
    exact ⟨rfl, rfl, rfl, rfl, rfl, rfl, rfl, rfl, rfl, rfl, rfl⟩
  · rw [e1, plA_0 (by omega) (by omega)]
    exact if_pos ⟨c0, c1⟩
  · rw [e2, plA_m (by omega) (by omega)]
    exact if_pos ⟨c0, c1⟩
  · rw [e3]
    unfold stg
    rw [v13, if_neg (by omega)]
    exact if_pos ⟨d0, d1⟩
  · rw [clr_o (by omega), clr_o (by omega), clr_o (by omega), clr_o (by omega)]
    exact h b b0 b1
/-- width and height, while there is no bar -/
theorem RV.wh {X : Mem} {r : Int} {A : Int → Int} {k v : Int} (h : RV X r A) (h2 : A 2 = 0) (hk : k = 0 ∨ k = 1) : RV (ms X r k v) r (up A k v) := by
  have e : ∀ q : Int, 2 ≤ q → up A k v q = A q := fun q hq => up_ne (by omega)
  have ne : ∀ i : Int, i ≠ r → ms X r k v i = X i := fun i hi => ms_ne hi
  have est : ∀ d : Int, 0 ≤ d → stg (up A k v) d = stg A d := fun d d0 => by
    unfold stg
    rw [e 13 (by omega), e (16 + d) (by omega)]
  obtain ⟨⟨a0, a1, a2, a3, a4, a5, a6, a7, a8, a9, a10⟩, h2', h3, h4, h5, h6, h7⟩ := h
  have sc : ∀ q p : Int, 2 ≤ q → 2 ≤ p → X r q = A p → ms X r k v r q = up A k v p := fun q p hq hp hx => by
    rw [ms_at, if_neg (by omega), e p hp]
    exact hx
  have s01 : ∀ q : Int, X r q = A q → ms X r k v r q = up A k v q := fun q hx => by
    rw [ms_at, up_at]
    by_cases g : q = k
    · rw [if_pos ⟨rfl, g⟩, if_pos g]
    · rw [if_neg (fun h => g h.2), if_neg g]
      exact hx
  refine ⟨⟨s01 0 a0, s01 1 a1, s01 2 a2, sc 3 5 (by decide) (by decide) a3, sc 4 6 (by decide) (by decide) a4, sc 5 7 (by decide) (by decide) a5, sc 6 8 (by decide) (by decide) a6, sc 7 9 (by decide) (by decide) a7, sc 8 10 (by decide) (by decide) a8, sc 9 11 (by decide) (by decide) a9, sc 10 12 (by decide) (by decide) a10⟩, fun c c0 c1 => ?_, fun c c0 c1 => ?_, fun d d0 d1 => ?_, fun b b0 b1 => ?_, fun b b0 b1 => ?_, fun b b0 b1 => ?_⟩
  · rw [ne _ (by omega), e _ (by omega)]
    exact h2' c c0 c1
  · rw [ne _ (by omega), e _ (by omega)]
    exact h3 c c0 c1
  · rw [ne _ (by omega), est d d0]
    exact h4 d d0 d1
  · rw [e 2 (by omega), h2] at b1
    omega
  · rw [e 2 (by omega), h2] at b1
    omega
  · rw [ne _ (by omega), ne _ (by omega), ne _ (by omega), ne _ (by omega)]
    exact h7 b b0 b1
theorem PCR.wh {r : Int} {S : Riv} {X : Mem} {k v : Int} (hr : r ∈ RIV) (h : PCR r S X) (h2 : S.A 2 = 0) (hk : k = 0 ∨ k = 1) : PCR r (S.wA (up S.A k v)) (ms X r k v) := by
  have := RIV_c hr
  obtain ⟨h1, h2', h3⟩ := h
  refine ⟨by rw [ms_ne (by omega)]; exact h1, h2'.wh h2 hk, fun b b0 b1 => ?_⟩
  have b1 : b < up S.A k v 2 := b1
  rw [up_ne (by omega), h2] at b1
  omega
theorem PMR.wh {S : Riv} {Z : Mem} {k v : Int} (h : PMR S Z) (h2 : S.A 2 = 0) (hk : k = 0 ∨ k = 1) : PMR (S.wA (up S.A k v)) (ms Z 121 (1760 + k) v) := by
  obtain ⟨h1, h2', h3⟩ := h
  refine ⟨by rw [ms_ne (by decide)]; exact h1, fun q q0 q1 => ?_, fun b b0 b1 => ?_⟩
  · show _ = up S.A k v q
    rw [ms_at, up_at]
    by_cases g : q = k
    · rw [if_pos ⟨rfl, by omega⟩, if_pos g]
    · rw [if_neg (by omega), if_neg g]
      exact h2' q q0 q1
  · have b1 : b < up S.A k v 2 := b1
    rw [up_ne (by omega), h2] at b1
    omega
noncomputable def szZ3 (X23 : Mem) : Option (Int × Mem) := cl (f_X12_wantSign 59 X23) fun r24 X25 => c1 r24 <| if r24 = 0 then some (0, X25) else some (1, X25)
noncomputable def szZ2 (X21 : Mem) : Option (Int × Mem) := cl (f_X12_number 1761 2 6 X21) fun r22 X23 => c1 r22 <| if r22 = 0 then some (0, X23) else szZ3 X23
noncomputable def szZ (X5 : Mem) : Option (Int × Mem) := cl (f_X12_wantWord 33 0 X5) fun r6 X7 => c1 r6 <| if r6 = 0 then some (0, X7) else cl (f_X12_number 1760 2 10 X7) fun r20 X21 => c1 r20 <| if r20 = 0 then some (0, X21) else szZ2 X21
theorem cl_cl {o : Option (Int × Mem)} {f g : Int → Mem → Option (Int × Mem)} : cl (cl o f) g = cl o fun r X => cl (f r X) g := by
  cases o <;> rfl
theorem cl_c1 {a : Int} {k : Option (Int × Mem)} {g : Int → Mem → Option (Int × Mem)} : cl (c1 a k) g = c1 a (cl k g) := by
  unfold c1
  split <;> rfl
theorem cl_if {p : Prop} [Decidable p] {a b : Option (Int × Mem)} {g : Int → Mem → Option (Int × Mem)} : cl (if p then a else b) g = if p then cl a g else cl b g := by
  split <;> rfl
noncomputable def rvC (r : Int) (X : Mem) : Option (Int × Mem) := B_X12_river_79 r X
theorem szZ_eq {X5 : Mem} : (cl (f_X12_wantWord 33 0 X5) fun r6 X7 => c1 r6 <| if r6 = 0 then B_X12_river_78 X7 else cl (f_X12_number 1760 2 10 X7) fun r20 X21 => c1 r20 <| if r20 = 0 then B_X12_river_78 X21 else cl (f_X12_number 1761 2 6 X21) fun r22 X23 => c1 r22 <| if r22 = 0 then B_X12_river_78 X23 else cl (f_X12_wantSign 59 X23) fun r24 X25 => c1 r24 <| if r24 = 0 then B_X12_river_78 X25 else B_X12_river_79 1 X25) = cl (szZ X5) rvC := by
  unfold szZ szZ2 szZ3
  simp only [cl_cl, cl_c1, cl_if, cl_some]
  rfl
noncomputable def tsX (X6 : Mem) : Option (Int × Mem) := cm RIV (X6 37 1) <| bd (ms X6 (X6 37 1) 1 (X6 35 8)) fun X8 => cl (f_X8_takeSign X8) fun r9 X10 => cz r9 (some (r9, X10))
noncomputable def tsX1 (X2 : Mem) : Option (Int × Mem) := cm RIV (X2 37 1) <| bd (ms X2 (X2 37 1) 0 (X2 35 8)) fun X4 => cl (f_X8_takeNumber 2 6 X4) fun r5 X6 => c1 r5 <| if ¬ r5 = 0 then tsX X6 else some (0, X6)
theorem takeSize_eq {X : Mem} : f_X3_takeSize X = cl (f_X8_takePair 0 2 10 X) fun r1 X2 => c1 r1 <| if ¬ r1 = 0 then tsX1 X2 else some (0, X2) := rfl
theorem S0_A : S0.A = plA := rfl
theorem part_size {T : Int → Int} {n r : Int} {t : Tok} (hr : r ∈ RIV) (hn : n ≤ 900) (hT : TXT T n) (hK : TKt T n t) : PRV T n 0 r t (PCR r S0) (PMR S0) f_X3_takeSize szZ := by
  have hrr := RIV_c hr
  obtain ⟨v0, v1, v2, v3, v4, v5, v6, v7, v8, v9, v10, v11, v12, v13, v14⟩ := plA_v
  refine PART.pairW (kX := tsX1) (kZ := szZ2) (JZ1 := PMR (S0.wA (up plA 0 (nx T n t.e).v))) (sl := 1760) (lo := 2) (hi := 10) w33_all.1 hn hT hK (inI_s (by decide) (by decide)) (inI_s (by decide) (by decide)) (by decide) (by decide) (PCR.st hr) PMR.st PMR.st (fun X h => h.rb) (RB.st hr) (fun v Z hJ hv => ?_) (fun h1 h2 h3 h4 h5 => ?_) (fun X Y r0 _ h0 e => ?_) (fun Z Y _ e => ?_) (fun Z Y Y' r0 _ hJ h0 e1 e2 => ?_)
  · rw [← hv]
    exact hJ.wh (k := 0) v2 (Or.inl rfl)
  · generalize hw : (nx T n t.e).v = w at *
    generalize nx T n (nx T n t.e).e = t2 at *
    have hr2 := h4.r
    refine PART.mapX (gX' := fun X4 => cl (f_X8_takeNumber 2 6 X4) fun r5 X6 => c1 r5 <| if ¬ r5 = 0 then tsX X6 else some (0, X6)) (JX' := PCR r (S0.wA (up plA 0 w))) ?_ (fun X hC hJ => ⟨ms X r 0 w, ?_, ms_cst hC (by omega) (by omega), hJ.1.wh hr v2 (Or.inl rfl), ms_frC (Or.inr (by omega)) (by omega)⟩)
    · have h02 : (S0.wA (up plA 0 w)).A 2 = 0 := by
        show up plA 0 w 2 = 0
        rw [up_ne (by decide)]
        exact v2
      refine PART.num (kX := tsX) (kZ := szZ3) (JZ1 := PMR ((S0.wA (up plA 0 w)).wA (up (up plA 0 w) 1 t2.v))) (lo := 2) (hi := 6) (sl := 1761) hn hT h4 (inI_s (by decide) (by decide)) (inI_s (by decide) (by decide)) (by decide) (by decide) (PCR.st hr) PMR.st (fun X h => h.rb) (RB.st hr) (fun Z hJ => hJ.wh (k := 1) h02 (Or.inr rfl)) (fun q1 q2 q3 k1 k2 => ?_) (fun X Y _ _ e => ?_) (fun X Y _ _ e => ?_) (fun Z Y _ _ _ e => ?_) (fun Z Y _ _ _ e => ?_)
      · generalize t2.v = hh at *
        generalize nx T n t2.e = t3 at *
        have hr3 := k1.r
        have hg : GdR ((S0.wA (up plA 0 w)).wA (up (up plA 0 w) 1 hh)) := by
          have e : ∀ q : Int, 2 ≤ q → up (up plA 0 w) 1 hh q = plA q := fun q hq => by rw [up_ne (by omega), up_ne (by omega)]
          have e0 : up (up plA 0 w) 1 hh 0 = w := by rw [up_ne (by decide), up_same]
          have e1 : up (up plA 0 w) 1 hh 1 = hh := up_same
          refine ⟨?_, ?_, ?_, ⟨Or.inl rfl, Or.inl rfl, Or.inl rfl, Or.inl rfl⟩, ?_, ⟨?_, ?_, ?_⟩, fun b b0 b1 => ?_⟩
          · show BD (up (up plA 0 w) 1 hh)
            unfold BD
            rw [e0, e1, e 2 (by decide), e 3 (by decide), e 4 (by decide), e 5 (by decide), e 6 (by decide), e 7 (by decide), e 8 (by decide), e 9 (by decide), e 10 (by decide), e 11 (by decide), e 12 (by decide), e 13 (by decide), e 14 (by decide), v2, v3, v4, v5, v6, v7, v8, v9, v10, v11, v12, v13, v14]
            refine ⟨Or.inr ⟨h2, h3, q2, q3⟩, by decide, by decide, by decide, by decide, by decide, by decide, by decide, by decide, by decide, by decide, by decide, by decide, by decide, fun d d0 d1 => ?_, fun j j0 j1 => ?_, fun c c0 c1 => ?_, fun c c0 c1 => ?_⟩
            · rw [e _ (by omega), plA_0 (by omega) (by omega)]; decide
            · rw [e _ (by omega), plA_0 (by omega) (by omega)]; decide
            · rw [e _ (by omega), plA_0 (by omega) (by omega)]; decide
            · rw [e _ (by omega), plA_m (by omega) (by omega)]; decide
          · show 2 ≤ up (up plA 0 w) 1 hh 0 ∧ 2 ≤ up (up plA 0 w) 1 hh 1
            rw [e0, e1]
            exact ⟨h2, q2⟩
          · show (0 : Int) ≤ 0 ∧ 0 ≤ up (up plA 0 w) 1 hh 1
            rw [e1]
            omega
          · intro _
            show up (up plA 0 w) 1 hh 13 = 0
            rw [e 13 (by decide)]; exact v13
          · show up (up plA 0 w) 1 hh 3 = 0
            rw [e 3 (by decide)]; exact v3
          · show up (up plA 0 w) 1 hh 4 = 0
            rw [e 4 (by decide)]; exact v4
          · show up (up plA 0 w) 1 hh 14 = 0
            rw [e 14 (by decide)]; exact v14
          · have b1 : b < up (up plA 0 w) 1 hh 2 := b1
            rw [e 2 (by decide), v2] at b1
            omega
        refine PART.mapX (gX' := fun X8 => cl (f_X8_takeSign X8) fun r9 X10 => cz r9 (some (r9, X10))) (JX' := PCR r ((S0.wA (up plA 0 w)).wA (up (up plA 0 w) 1 hh))) ?_ (fun X hC hJ => ⟨ms X r 1 hh, ?_, ms_cst hC (by omega) (by omega), hJ.1.wh hr h02 (Or.inr rfl), ms_frC (Or.inr (by omega)) (by omega)⟩)
        · refine PART.sign _ (by omega) hg hn hT k1 (PCR.st hr) PMR.st (fun X h => h.rb) (RB.st hr) (fun X h => h) (fun X h => h) (fun X Y r h e => sign_X h e) (fun Z Y r h e => ?_)
          rw [szZ3, e, cl_some]
          rcases h with rfl | rfl
          · rw [c1_0, i00]
          · rw [c1_1, i10]
        · rw [tsX, hJ.1.1.1, hJ.2, cm_ok hr, bd_eq]
      · show (cl (f_X8_takeNumber 2 6 X) fun r5 X6 => _) = _
        rw [e, cl_some, c1_0, n00]
      · show (cl (f_X8_takeNumber 2 6 X) fun r5 X6 => _) = _
        rw [e, cl_some, c1_1, n10]
      · rw [szZ2, e, cl_some, c1_0, i00]
      · rw [szZ2, e, cl_some, c1_1, i10]
    · rw [tsX1, hJ.1.1.1, hJ.2, cm_ok hr, bd_eq]
  · rw [takeSize_eq, e, cl_some]
    rcases h0 with rfl | rfl
    · rw [c1_0, n00, i00]
    · rw [c1_1, n10, i10]
  · rw [szZ, show f_X12_wantWord 33 0 Z = some (0, Y) from e, cl_some, c1_0, i00]
  · rw [szZ, show f_X12_wantWord 33 0 Z = some (1, Y) from e1, cl_some, c1_1, i10, e2, cl_some]
    rcases h0 with rfl | rfl
    · rw [c1_0]
    · rw [c1_1]
