/-! rules: the call -/
theorem rule_loop {T : Int → Int} {n u r m0 : Int} {N0 : Int → Int} (hu : u ∈ RUL) (hr : r ∈ RIV) (hur : u + 4 < r ∨ r + 9 < u) (hn : n ≤ 300) (hT : TXT T n) (hN : ∀ b : Int, 0 ≤ b → b < m0 → ∃ a : Int, NM a (N0 b)) : ∀ (K j : Nat) (t : Tok) (S : Rul), 302 - j < K → TKt T n t → GdU m0 S → (j : Int) ≤ t.b →
    (∃ S' : Rul, (GdU m0 S' ∧ S'.deep = 0) ∧ (∀ X : Mem, CSt X T n t → PCU u r m0 N0 S X → ∃ Y : Mem, L_X5_parse_42 K j X = some (1, Y) ∧ PCU u r m0 N0 S' Y ∧ FrC (WU u) X Y) ∧ ∀ Z : Mem, MSt Z T n t → Z 120 18 = 0 → PMU m0 N0 S Z → ∃ Y : Mem, L_X12_rule_38 K 1 Z = B_X12_rule_77 Y ∧ Y 120 18 = 0 ∧ PMU m0 N0 S' Y ∧ FrW Z Y) ∨
    (∃ f b : Int, (1 ≤ f ∧ f ≤ 7) ∧ (0 ≤ b ∧ b ≤ 900) ∧ (∀ X : Mem, CSt X T n t → PCU u r m0 N0 S X → ∃ Y : Mem, L_X5_parse_42 K j X = some (0, Y) ∧ Y 35 9 = f ∧ Y 35 10 = b ∧ FrB (WU u) X Y) ∧ ∀ Z : Mem, MSt Z T n t → Z 120 18 = 0 → PMU m0 N0 S Z → ∃ Y : Mem, L_X12_rule_38 K 1 Z = B_X12_rule_77 Y ∧ Y 120 18 = f ∧ Y 120 17 = b ∧ FrWB Z Y) := by
  have b57 : ∀ (Y : Mem) (f : Int), 1 ≤ f ∧ f ≤ 7 → Y 120 18 = f → B_X12_rule_57 Y = B_X12_rule_77 Y := fun Y f hf h => by
    rw [B_X12_rule_57, h, c1_okk (by omega) (by omega), if_pos (by omega)]
  intro K
  induction K with
  | zero => intro j t S h; omega
  | succ K ih =>
    intro j t S hK hK2 hs hj
    obtain ⟨k1, k2, k3, k4, k5, k6⟩ := kr hK2
    have htr := hK2.r
    have gd := hs.1.1
    by_cases g0 : t.k = 0
    · have eX : ∀ X : Mem, CSt X T n t → L_X5_parse_42 (K + 1) j X = B_X5_parse_97 X := fun X hC => by
        have c4 : X 35 4 = t.k := hC.2.2.2.1
        rw [L_X5_parse_42, c2_ok (by omega) (by omega) (by decide) (by decide)]
        by_cases g9 : (300 : Int) ≤ (j : Int)
        · rw [if_pos g9]
        · rw [if_neg g9, c4, g0, c1_0, i00]
      have eZ : ∀ Z : Mem, MSt Z T n t → L_X12_rule_38 (K + 1) 1 Z = B_X12_rule_57 Z := fun Z hM => by
        rw [L_X12_rule_38, c1_1, i10, hM.2.2.1, k3.mpr g0, c1_0, i00]
      by_cases gp : S.deep = 0
      · refine Or.inl ⟨S, ⟨hs, gp⟩, fun X hC hJ => ⟨X, ?_, hJ, FrC.rfl'⟩, fun Z hM h18 hJ => ⟨Z, ?_, h18, hJ, FrW.rfl'⟩⟩
        · rw [eX X hC, B_X5_parse_97, hJ.1.2.2.1, gp, c1_0, i00]
        · rw [eZ Z hM, B_X12_rule_57, h18, c1_0, n00, hJ.1.2.1, gp, c1_0, if_pos (by decide)]
      · refine Or.inr ⟨2, t.b, by decide, by omega, fun X hC hJ => ⟨flC X 2 t.b, ?_, flC_v.1, flC_v.2, FrC.fl⟩, fun Z hM h18 hJ => ⟨flM Z 2 t.b, ?_, flM_v.1, flM_v.2, FrW.fl⟩⟩
        · rw [eX X hC, B_X5_parse_97, hJ.1.2.2.1, c1_okk (by omega) (by omega), if_neg gp, failHere_eq hK2 hC, cl_some, c1_0, i00, g0]
          rfl
        · rw [eZ Z hM, B_X12_rule_57, h18, c1_0, n00, hJ.1.2.1, c1_okk (by omega) (by omega), if_neg (by omega), fails_eq hK2 hM h18, cl_some, g0]
          rfl
    · have hlt : t.b < t.e := by
        rcases hK2.2 with ⟨h, -⟩ | ⟨-, h1, -⟩ | ⟨-, h1, -⟩ | ⟨-, h1⟩ | ⟨-, h1⟩
        · exact absurd h g0
        · exact h1
        · exact h1
        · exact h1
        · exact h1
      have e3 : (j : Int) + 1 = ((j + 1 : Nat) : Int) := rfl
      have eZ : ∀ Z : Mem, MSt Z T n t → L_X12_rule_38 (K + 1) 1 Z = cl (f_X12_step Z) fun r18 X19 => L_X12_rule_38 K r18 X19 := fun Z hM => by
        rw [L_X12_rule_38, c1_1, i10, hM.2.2.1, c1_okk (by omega) (by omega), if_neg (fun h => g0 (k3.mp h))]
      have i6 : ∀ X : Mem, CSt X T n t → f_X8_is 21 X = some (if t34 T t = 6 then 1 else 0, X) := fun X hC => is34 (a := 21) (q := 6) w34_all.2.2.2.2.2.2.1 hT hK2 hC
      have part : ∃ g : Mem → Option (Int × Mem), PRU T n t.e u r m0 N0 t (PCU u r m0 N0 S) (PMU m0 N0 S) g f_X12_step ∧ (∀ X Y : Mem, CSt X T n t → g X = some (1, Y) → L_X5_parse_42 (K + 1) j X = L_X5_parse_42 K ((j : Int) + 1) Y) ∧ (∀ X Y : Mem, CSt X T n t → g X = some (0, Y) → L_X5_parse_42 (K + 1) j X = some (0, Y)) := by
        have eX : ∀ X : Mem, CSt X T n t → L_X5_parse_42 (K + 1) j X = cl (some (if t34 T t = 6 then (1 : Int) else 0, X)) fun r12 X13 => c1 r12 <| if r12 = 0 then cl (f_X5_takeStep X13) fun r14 X15 => c1 r14 <| if ¬ r14 = 0 then B_X5_parse_91 (fun x4 X => L_X5_parse_42 K x4 X) j X15 else some (0, X15) else cl (f_X5_takeEnd X13) fun r16 X17 => c1 r16 <| if r16 = 0 then some (0, X17) else B_X5_parse_91 (fun x4 X => L_X5_parse_42 K x4 X) j X17 := fun X hC => by
          have c4 : X 35 4 = t.k := hC.2.2.2.1
          rw [L_X5_parse_42, c2_ok (by omega) (by omega) (by decide) (by decide), if_neg (by omega), c4, c1_okk (by omega) (by omega), if_neg g0, i6 X hC]
        by_cases g6 : t34 T t = 6
        · refine ⟨f_X5_takeEnd, PRU.close hu hr hur (by omega) hT hK2 (Int.le_refl _) hs g6, fun X Y hC e => ?_, fun X Y hC e => ?_⟩
          · rw [eX X hC, if_pos g6, cl_some, c1_1, i10, e, cl_some, c1_1, i10, B_X5_parse_91]
          · rw [eX X hC, if_pos g6, cl_some, c1_1, i10, e, cl_some, c1_0, i00]
        · refine ⟨f_X5_takeStep, PRU.step hu hr hur (by omega) hT hK2 (Int.le_refl _) hs hN g6, fun X Y hC e => ?_, fun X Y hC e => ?_⟩
          · rw [eX X hC, if_neg g6, cl_some, c1_0, i00, e, cl_some, c1_1, n10, B_X5_parse_91]
          · rw [eX X hC, if_neg g6, cl_some, c1_0, i00, e, cl_some, c1_0, n00]
      obtain ⟨g, hg, hg1, hg0⟩ := part
      rcases hg with ⟨t', S', h1, h2, h3, h4, h5⟩ | ⟨f, b, h1, h2, h4, h5⟩
      · have hs' : GdU m0 S' := h3
        rcases ih (j + 1) t' S' (by omega) h2 hs' (by omega) with ⟨S2, a1, a2, a3⟩ | ⟨f, b, a0, a1, a2, a3⟩
        · refine Or.inl ⟨S2, a1, fun X hC hJ => ?_, fun Z hM h18 hJ => ?_⟩
          · obtain ⟨Y, y1, y2, y3, y4⟩ := h4 X hC hJ
            obtain ⟨V, v1, v2, v3⟩ := a2 Y y2 y3
            exact ⟨V, by rw [hg1 X Y hC y1, e3, v1], v2, y4.trans v3⟩
          · obtain ⟨Y, y1, y2, y3, y4, y5⟩ := h5 Z hM h18 hJ
            obtain ⟨V, v1, v2, v3, v4⟩ := a3 Y y2 y3 y4
            exact ⟨V, by rw [eZ Z hM, y1, cl_some, v1], v2, v3, y5.trans v4⟩
        · refine Or.inr ⟨f, b, a0, a1, fun X hC hJ => ?_, fun Z hM h18 hJ => ?_⟩
          · obtain ⟨Y, y1, y2, y3, y4⟩ := h4 X hC hJ
            obtain ⟨V, v1, v2, v3, v4⟩ := a2 Y y2 y3
            exact ⟨V, by rw [hg1 X Y hC y1, e3, v1], v2, v3, y4.trans v4⟩
          · obtain ⟨Y, y1, y2, y3, y4, y5⟩ := h5 Z hM h18 hJ
            obtain ⟨V, v1, v2, v3, v4⟩ := a3 Y y2 y3 y4
            exact ⟨V, by rw [eZ Z hM, y1, cl_some, v1], v2, v3, y5.trans v4⟩
      · refine Or.inr ⟨f, b, h1, h2, fun X hC hJ => ?_, fun Z hM h18 hJ => ?_⟩
        · obtain ⟨Y, y1, y2, y3, -, y5⟩ := h4 X hC hJ
          exact ⟨Y, hg0 X Y hC y1, y2, y3, y5⟩
        · obtain ⟨Y, y1, y2, y3, y4⟩ := h5 Z hM h18 hJ
          obtain ⟨K', rfl⟩ : ∃ K', K = K' + 1 := ⟨K - 1, by omega⟩
          exact ⟨Y, by rw [eZ Z hM, y1, cl_some, L_X12_rule_38, c1_0, i00, b57 Y f h1 y2], y2, y3, y4⟩
def FrNW (Z Y : Mem) : Prop := (∀ i : Int, i ≠ 120 → i ≠ 121 → i ≠ 122 → i ≠ 127 → i ≠ 128 → i ≠ 129 → Y i = Z i) ∧ (∀ q : Int, q < 10 ∨ q = 16 ∨ (20 < q ∧ q < 24) ∨ 25 < q → Y 120 q = Z 120 q) ∧ (∀ q : Int, q < 1760 → Y 121 q = Z 121 q) ∧ (∀ q : Int, q < 20 → Y 122 q = Z 122 q) ∧ Y 120 10 = 0
theorem FrN.ofW {s : Int} {Z Y V : Mem} (h : FrN Z Y) (g : FrV s Y V) : FrNW Z V := by
  obtain ⟨h1, h2, h3, h4, h5⟩ := h
  obtain ⟨g1, g2, g3, g4⟩ := g
  exact ⟨fun i a b c d e f => by rw [g1 i a b c e f, h1 i a b c d e], fun q hq => by rw [g2 q (by omega), h2 q hq], fun q hq => by rw [g3 q hq, h3 q hq], fun q hq => by rw [g4 q hq, h4 q hq], by rw [g2 10 (by omega), h5]⟩
def S0u : Rul := (fun _ => 0, 0, 0, fun _ => 0)
theorem rule_run {T : Int → Int} {n u r m0 : Int} {N0 : Int → Int} (hu : u ∈ RUL) (hr : r ∈ RIV) (hur : u + 4 < r ∨ r + 9 < u) (hn : n ≤ 300) (hT : TXT T n) (hm : 0 ≤ m0 ∧ m0 ≤ 5) (hN : ∀ b : Int, 0 ≤ b → b < m0 → ∃ a : Int, NM a (N0 b)) :
    (∃ S' : Rul, (GdU m0 S' ∧ S'.deep = 0) ∧ (∀ X : Mem, X 36 = T → NMX r m0 N0 X → ∃ Y : Mem, f_X5_parse n u r X = some (1, Y) ∧ (PCU u r m0 N0 S' Y ∧ Y 35 9 = 0 ∧ Y 35 10 = -1) ∧ FrB (WU u) X Y) ∧ ∀ Z : Mem, (∀ i : Int, 0 ≤ i → i < n → Z 126 i = T i) → Z 120 10 ≤ 900 → n ≤ Z 120 10 → NMZ m0 N0 Z → ∃ Y : Mem, f_X12_rule n Z = B_X12_rule_77 Y ∧ (Y 120 18 = 0 ∧ Y 120 17 = -1) ∧ PMU m0 N0 S' Y ∧ FrNW Z Y) ∨
    (∃ f b : Int, (1 ≤ f ∧ f ≤ 7) ∧ (0 ≤ b ∧ b ≤ 900) ∧ (∀ X : Mem, X 36 = T → NMX r m0 N0 X → ∃ Y : Mem, f_X5_parse n u r X = some (0, Y) ∧ Y 35 9 = f ∧ Y 35 10 = b ∧ FrB (WU u) X Y) ∧ ∀ Z : Mem, (∀ i : Int, 0 ≤ i → i < n → Z 126 i = T i) → Z 120 10 ≤ 900 → n ≤ Z 120 10 → NMZ m0 N0 Z → ∃ Y : Mem, f_X12_rule n Z = B_X12_rule_77 Y ∧ Y 120 18 = f ∧ Y 120 17 = b ∧ FrNW Z Y) := by
  have hn0 := hT.1
  obtain ⟨k1, k2⟩ := nx_k hT (Int.le_refl 0) hn0.1
  have hG : GdU m0 S0u := ⟨⟨by decide, by decide, by decide, hm⟩, fun i i0 i1 => by have i1 : i < 0 := i1; omega, fun i j i0 i1 => by have i1 : i < 0 := i1; omega, fun h => absurd h (by decide), fun i i0 i1 => by have i1 : i < 0 := i1; omega, fun k a b => by have b : k < 0 := b; omega⟩
  have stX : ∀ X : Mem, X 36 = T → NMX r m0 N0 X → ∃ Y : Mem, f_X5_parse n u r X = L_X5_parse_42 KF 0 Y ∧ CSt Y T n (nx T n 0) ∧ (PCU u r m0 N0 S0u Y ∧ Y 35 9 = 0 ∧ Y 35 10 = -1) ∧ FrB (WU u) X Y := fun X h36 hb => by
    have u0 := u35 hu 0 (by decide) (by decide)
    rw [Int.add_zero] at u0
    have s0 := (sepU hu) 0 (by decide) (by decide)
    rw [Int.add_zero] at s0
    have r0 := (sepR hr) 0 (by decide) (by decide)
    rw [Int.add_zero] at r0
    have r4 := (sepR hr) 4 (by decide) (by decide)
    have ar : r ≠ u ∧ r + 4 ≠ u := by clear s0 r0 r4 u0; omega
    obtain ⟨V, hV⟩ : ∃ V : Mem, V = ms (ms (ms (ms (ms X 38 2 u) 38 3 r) 38 4 0) u 0 0) u 1 0 := ⟨_, rfl⟩
    have vo : ∀ i : Int, i ≠ 38 → i ≠ u → V i = X i := fun i a b => by rw [hV, ms_ne b, ms_ne b, ms_ne a, ms_ne a, ms_ne a]
    have v38 : V 38 2 = u ∧ V 38 3 = r ∧ V 38 4 = 0 := by
      rw [hV]
      refine ⟨?_, ?_, ?_⟩
      · rw [ms_ne (Ne.symm s0.1), ms_ne (Ne.symm s0.1), ms_at, if_neg (by decide), ms_at, if_neg (by decide), ms_at, if_pos ⟨rfl, rfl⟩]
      · rw [ms_ne (Ne.symm s0.1), ms_ne (Ne.symm s0.1), ms_at, if_neg (by decide), ms_at, if_pos ⟨rfl, rfl⟩]
      · rw [ms_ne (Ne.symm s0.1), ms_ne (Ne.symm s0.1), ms_at, if_pos ⟨rfl, rfl⟩]
    have vu : V u 0 = 0 ∧ V u 1 = 0 := ⟨by rw [hV, ms_at, if_neg (fun h => absurd h.2 (by decide)), ms_at, if_pos ⟨rfl, rfl⟩], by rw [hV, ms_at, if_pos ⟨rfl, rfl⟩]⟩
    obtain ⟨Y, y1, y2, y3, y4, y5, y6⟩ := start8_eq (X := V) hT (by rw [vo 36 (by decide) (Ne.symm u0.2.1)]; exact h36)
    refine ⟨Y, ?_, y2, ⟨⟨⟨by rw [y3 38 (by decide)]; exact v38.1, by rw [y3 38 (by decide)]; exact v38.2.1, by rw [y3 38 (by decide)]; exact v38.2.2, by rw [y3 u u0.1]; exact vu.1, by rw [y3 u u0.1]; exact vu.2⟩, fun i i0 i1 => ?_, ⟨by rw [y3 r r0.2.2.1, vo r r0.1 ar.1]; exact hb.1, fun b b0 b1 => by rw [y3 (r + 4) r4.2.2.1, vo (r + 4) r4.1 ar.2]; exact hb.2 b b0 b1⟩, fun k a b => ?_, fun k a b => ?_⟩, y5, y6⟩, ⟨fun i a b => ?_, fun q hq => ?_⟩⟩
    · have e1 : ms (ms X 38 2 u) 38 3 r = ms (ms X 38 2 u) 38 3 r := rfl
      have x1 : ms (ms (ms X 38 2 u) 38 3 r) 38 4 0 38 2 = u := by rw [ms_at, if_neg (by decide), ms_at, if_neg (by decide), ms_at, if_pos ⟨rfl, rfl⟩]
      have x2 : ms (ms (ms (ms X 38 2 u) 38 3 r) 38 4 0) u 0 0 38 2 = u := by rw [ms_ne (Ne.symm s0.1)]; exact x1
      unfold f_X5_parse
      rw [bd_eq, bd_eq, bd_eq, x1, cm_ok hu, bd_eq, x2, cm_ok hu, bd_eq, ← hV, y1, cl_some]
    · have i1 : i < 0 := i1
      omega
    · have b : k < 0 := b
      omega
    · have b : k < 0 := b
      omega
    · rw [y3 i a, vo i (fun e => b (Or.inl e)) (fun e => b (e ▸ u0.2.2))]
    · rw [y4 q (by omega), vo 35 (by decide) (Ne.symm u0.1)]
  have stZ : ∀ Z : Mem, (∀ i : Int, 0 ≤ i → i < n → Z 126 i = T i) → Z 120 10 ≤ 900 → n ≤ Z 120 10 → NMZ m0 N0 Z → ∃ Y : Mem, f_X12_rule n Z = L_X12_rule_38 KF 1 Y ∧ MSt Y T n (nx T n 0) ∧ (Y 120 18 = 0 ∧ Y 120 17 = -1) ∧ PMU m0 N0 S0u Y ∧ FrN Z Y := fun Z h126 h10 h10' hz => by
    obtain ⟨Y, y1, y2, y3, y4, y5, y6, y7⟩ := begins_eq (m := 300) hT h126 ⟨hn, by decide⟩ ⟨h10, h10'⟩
    obtain ⟨V, hV⟩ : ∃ V : Mem, V = ms (ms (ms Y 121 1774 0) 120 24 0) 120 25 0 := ⟨_, rfl⟩
    have vo : ∀ i : Int, i ≠ 120 → i ≠ 121 → V i = Y i := fun i a b => by rw [hV, ms_ne a, ms_ne a, ms_ne b]
    have vq : ∀ q : Int, q ≠ 24 → q ≠ 25 → V 120 q = Y 120 q := fun q h1 h2 => by rw [hV, ms_at, if_neg (fun h => h2 h.2), ms_at, if_neg (fun h => h1 h.2), ms_ne (by decide)]
    have v121 : ∀ q : Int, q ≠ 1774 → V 121 q = Y 121 q := fun q hq => by rw [hV, ms_ne (by decide), ms_ne (by decide), ms_at, if_neg (fun h => hq h.2)]
    refine ⟨V, ?_, y2.fr (vo 127 (by decide) (by decide)) (fun q a b => vq q (by omega) (by omega)), ⟨by rw [vq 18 (by decide) (by decide)]; exact y3.1, by rw [vq 17 (by decide) (by decide)]; exact y3.2⟩, ⟨⟨?_, ?_, ?_⟩, fun i i0 i1 => ?_, ⟨by rw [v121 2 (by decide), y5]; exact hz.1, fun b b0 b1 => by rw [vo 122 (by decide) (by decide), y6]; exact hz.2 b b0 b1⟩, fun k j a b => ?_⟩, y7.of (s := 8) ⟨fun i a b _ _ => vo i a b, fun q hq => vq q (by omega) (by omega), fun q hq => v121 q (by omega), fun q _ => by rw [vo 122 (by decide) (by decide)]⟩⟩
    · unfold f_X12_rule
      rw [y1, cl_some, c1_1, n10, ax_ok (by decide) (by decide), bd_eq, bd_eq, bd_eq, hV]
    · rw [hV, ms_ne (by decide), ms_ne (by decide), ms_at, if_pos ⟨rfl, rfl⟩]; rfl
    · rw [hV, ms_at, if_neg (by decide), ms_at, if_pos ⟨rfl, rfl⟩]; rfl
    · rw [hV, ms_at, if_pos ⟨rfl, rfl⟩]; rfl
    · have i1 : i < 0 := i1
      omega
    · have b : k < 0 := b
      omega
  rcases rule_loop hu hr hur hn hT hN KF 0 (nx T n 0) S0u (by rw [KF_eq]; omega) k1 hG k2 with ⟨S2, a1, a2, a3⟩ | ⟨f, b, a0, a1, a2, a3⟩
  · refine Or.inl ⟨S2, a1, fun X h36 hb => ?_, fun Z h126 h10 h10' hz => ?_⟩
    · obtain ⟨U, u1, u2, u3, u4⟩ := stX X h36 hb
      obtain ⟨V, v1, v2, v3⟩ := a2 U u2 u3.1
      exact ⟨V, by rw [u1]; exact v1, ⟨v2, by rw [v3.2 9 (by decide)]; exact u3.2.1, by rw [v3.2 10 (by decide)]; exact u3.2.2⟩, FrB.tr u4 v3⟩
    · obtain ⟨U, u1, u2, u3, u4, u5⟩ := stZ Z h126 h10 h10' hz
      obtain ⟨V, v1, v2, v3, v4⟩ := a3 U u2 u3.1 u4
      exact ⟨V, by rw [u1, v1], ⟨v2, by rw [v4.2.1 17 (by decide)]; exact u3.2⟩, v3, u5.ofW v4⟩
  · refine Or.inr ⟨f, b, a0, a1, fun X h36 hb => ?_, fun Z h126 h10 h10' hz => ?_⟩
    · obtain ⟨U, u1, u2, u3, u4⟩ := stX X h36 hb
      obtain ⟨V, v1, v2, v3, v4⟩ := a2 U u2 u3.1
      exact ⟨V, by rw [u1]; exact v1, v2, v3, FrB.tr u4 v4⟩
    · obtain ⟨U, u1, u2, u3, u4, u5⟩ := stZ Z h126 h10 h10' hz
      obtain ⟨V, v1, v2, v3, v4⟩ := a3 U u2 u3.1 u4
      exact ⟨V, by rw [u1, v1], v2, v3, u5.ofW v4⟩
