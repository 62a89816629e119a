/-! texts: a word and its number -/
theorem t33_k {T : Int → Int} {t : Tok} (h : t33 T t ≠ -1) : t.k = 1 := by
  unfold t33 tw at h
  by_cases g : t.k = 1
  · exact g
  · rw [if_neg g] at h
    exact absurd rfl h
theorem tn8_t {X : Mem} {T : Int → Int} {n lo hi : Int} {t : Tok} (hT : TXT T n) (hK : TKt T n t) (hC : CSt X T n t) (hlo : inI lo) (hhi : inI hi) : ∃ (r : Int) (Y : Mem), f_X8_takeNumber lo hi X = some (r, Y) ∧ (r = 0 ∨ r = 1) := by
  by_cases g : t.k = 2 ∧ lo ≤ t.v ∧ t.v ≤ hi
  · obtain ⟨R, r1, -⟩ := tn8_y hT hK hC hlo hhi g
    exact ⟨1, _, r1, Or.inr rfl⟩
  · exact ⟨0, _, (tn8_n hK hC hlo hhi g).1, Or.inl rfl⟩
theorem nm_t {Z : Mem} {T : Int → Int} {n lo hi sl : Int} {t : Tok} (hT : TXT T n) (hK : TKt T n t) (hM : MSt Z T n t) (h18 : Z 120 18 = 0) (hlo : inI lo) (hhi : inI hi) (s0 : 0 ≤ sl) (s1 : sl < 2200) : ∃ (r : Int) (Y : Mem), f_X12_number sl lo hi Z = some (r, Y) ∧ (r = 0 ∨ r = 1) := by
  by_cases g : t.k = 2 ∧ lo ≤ t.v ∧ t.v ≤ hi
  · obtain ⟨R, r1, -⟩ := nm_y hT hK hM hlo hhi s0 s1 g
    exact ⟨1, _, r1, Or.inr rfl⟩
  · exact ⟨0, _, nm_n hK hM h18 hlo hhi g, Or.inl rfl⟩
section logic
variable {σ : Type} {W : Int → Prop} {I : Mem → Prop} {T : Int → Int} {n p : Int} {Gd : σ → Prop} {QX QZ : σ → Mem → Prop}
theorem PART.num' {t : Tok} {JX JZ JZ1 : Mem → Prop} {kX kZ : Mem → Option (Int × Mem)} {lo hi sl : Int} (hn : n ≤ 900) (hT : TXT T n) (hK : TKt T n t) (hlo : inI lo) (hhi : inI hi) (s0 : 1760 ≤ sl) (s1 : sl < 2200) (sX : StC JX) (sZ : StM JZ1) (hI : ∀ X : Mem, JX X → I X) (sI : StC I) (hJ1 : ∀ Z : Mem, JZ Z → JZ1 (ms Z 121 sl t.v)) (h : t.k = 2 → lo ≤ t.v → t.v ≤ hi → TKt T n (nx T n t.e) → t.e ≤ (nx T n t.e).b → PART W I T n p Gd QX QZ (nx T n t.e) (fun Y => JX Y ∧ Y 35 8 = t.v) JZ1 kX kZ) :
    PART W I T n p Gd QX QZ t JX JZ (fun Y => cl (f_X8_takeNumber lo hi Y) fun r Y' => if r = 0 then some (0, Y') else kX Y') (fun Y => cl (f_X12_number sl lo hi Y) fun r Y' => if r = 0 then some (0, Y') else kZ Y') :=
  PART.num hn hT hK hlo hhi s0 s1 sX sZ hI sI hJ1 h (fun X Y _ _ e => by
    show (cl (f_X8_takeNumber lo hi X) fun r Y' => if r = 0 then some (0, Y') else kX Y') = _
    rw [e, cl_some, i00]) (fun X Y _ _ e => by
    show (cl (f_X8_takeNumber lo hi X) fun r Y' => if r = 0 then some (0, Y') else kX Y') = _
    rw [e, cl_some, i10]) (fun Z Y _ _ _ e => by
    show (cl (f_X12_number sl lo hi Z) fun r Y' => if r = 0 then some (0, Y') else kZ Y') = _
    rw [e, cl_some, i00]) (fun Z Y _ _ _ e => by
    show (cl (f_X12_number sl lo hi Z) fun r Y' => if r = 0 then some (0, Y') else kZ Y') = _
    rw [e, cl_some, i10])
/-- the word is known to stand here: the reference goes on without asking -/
theorem PART.pairA {t : Tok} {JX JZ JZ1 : Mem → Prop} {gX gZ kX kZ : Mem → Option (Int × Mem)} {a q : Nat} {lo hi sl : Int} (hw : W33 a q) (hq : t33 T t = q) (hn : n ≤ 900) (hT : TXT T n) (hK : TKt T n t) (hlo : inI lo) (hhi : inI hi) (s0 : 1760 ≤ sl) (s1 : sl < 2200) (sX : StC JX) (sZ0 : StM JZ) (sZ : StM JZ1) (hI : ∀ X : Mem, JX X → I X) (sI : StC I) (hJ1 : ∀ (v : Int) (Z : Mem), JZ Z → v = (nx T n t.e).v → JZ1 (ms Z 121 sl v))
    (h : (nx T n t.e).k = 2 → lo ≤ (nx T n t.e).v → (nx T n t.e).v ≤ hi → TKt T n (nx T n (nx T n t.e).e) → t.e ≤ (nx T n (nx T n t.e).e).b → PART W I T n p Gd QX QZ (nx T n (nx T n t.e).e) (fun Y => JX Y ∧ Y 35 8 = (nx T n t.e).v) JZ1 kX kZ)
    (hX : ∀ (X Y : Mem) (r : Int), JX X → r = 0 ∨ r = 1 → f_X8_takePair a lo hi X = some (r, Y) → gX X = if r = 0 then some (0, Y) else kX Y)
    (hZ : ∀ (Z Y Y' : Mem) (r : Int), JZ Z → JZ Y → r = 0 ∨ r = 1 → f_X12_ahead Z = some (0, Y) → f_X12_number sl lo hi Y = some (r, Y') → gZ Z = if r = 0 then some (0, Y') else kZ Y') : PART W I T n p Gd QX QZ t JX JZ gX gZ := by
  obtain ⟨k1, k2⟩ := nx_t hT hK
  have hr1 := k1.r
  refine (PART.num' (JX := JX) (JZ := JZ) (kX := kX) (kZ := kZ) hn hT k1 hlo hhi s0 s1 sX sZ hI sI (fun Z hJ => hJ1 _ Z hJ rfl) (fun a b c d e => h a b c d (by omega))).go (fun X hC hJ => ?_) (fun Z hM h18 hJ => ?_)
  · obtain ⟨R, r1, r2, r3⟩ := tw8_y hw hT hK hC hq
    obtain ⟨r, Y', e1, e2⟩ := tn8_t hT k1 r2 hlo hhi
    have ep : f_X8_takePair a lo hi X = some (r, Y') := by
      unfold f_X8_takePair
      rw [r1, cl_some, c1_1, i10, e1, cl_some]
      rcases e2 with rfl | rfl
      · rw [c1_0, i00]
      · rw [c1_1, i10]
    refine ⟨_, ?_, r2, sX _ _ hJ, FrC.a r3⟩
    rw [hX X Y' r hJ e2 ep]
    show _ = cl (f_X8_takeNumber lo hi (ma X 35 R)) fun r Y' => if r = 0 then some (0, Y') else kX Y'
    rw [e1, cl_some]
  · obtain ⟨R, r1, r2, r3⟩ := adv12 hT hK hM
    have hJ' : JZ (ma Z 120 R) := sZ0 _ _ (fun q a _ _ => r3 q a) hJ
    have h18' : (ma Z 120 R) 120 18 = 0 := by rw [ma_same, r3 18 (by decide)]; exact h18
    obtain ⟨r, Y', e1, e2⟩ := nm_t (sl := sl) hT k1 r2 h18' hlo hhi (by omega) s1
    refine ⟨_, ?_, r2, h18', hJ', FrM.a r3⟩
    rw [hZ Z _ Y' r hJ hJ' e2 r1 e1]
    show _ = cl (f_X12_number sl lo hi (ma Z 120 R)) fun r Y' => if r = 0 then some (0, Y') else kZ Y'
    rw [e1, cl_some]
/-- a word and a number that must stand here -/
theorem PART.pairW {t : Tok} {JX JZ JZ1 : Mem → Prop} {gX gZ kX kZ : Mem → Option (Int × Mem)} {a q : Nat} {lo hi sl : Int} (hw : W33 a q) (hn : n ≤ 900) (hT : TXT T n) (hK : TKt T n t) (hlo : inI lo) (hhi : inI hi) (s0 : 1760 ≤ sl) (s1 : sl < 2200) (sX : StC JX) (sZ0 : StM JZ) (sZ : StM JZ1) (hI : ∀ X : Mem, JX X → I X) (sI : StC I) (hJ1 : ∀ (v : Int) (Z : Mem), JZ Z → v = (nx T n t.e).v → JZ1 (ms Z 121 sl v))
    (h : (nx T n t.e).k = 2 → lo ≤ (nx T n t.e).v → (nx T n t.e).v ≤ hi → TKt T n (nx T n (nx T n t.e).e) → t.e ≤ (nx T n (nx T n t.e).e).b → PART W I T n p Gd QX QZ (nx T n (nx T n t.e).e) (fun Y => JX Y ∧ Y 35 8 = (nx T n t.e).v) JZ1 kX kZ)
    (hX : ∀ (X Y : Mem) (r : Int), JX X → r = 0 ∨ r = 1 → f_X8_takePair a lo hi X = some (r, Y) → gX X = if r = 0 then some (0, Y) else kX Y)
    (hZ0 : ∀ (Z Y : Mem), JZ Z → f_X12_wantWord 33 q Z = some (0, Y) → gZ Z = some (0, Y))
    (hZ : ∀ (Z Y Y' : Mem) (r : Int), JZ Z → JZ Y → r = 0 ∨ r = 1 → f_X12_wantWord 33 q Z = some (1, Y) → f_X12_number sl lo hi Y = some (r, Y') → gZ Z = if r = 0 then some (0, Y') else kZ Y') : PART W I T n p Gd QX QZ t JX JZ gX gZ := by
  obtain ⟨k1, k2⟩ := nx_t hT hK
  have hr1 := k1.r
  by_cases hq : t33 T t = q
  · refine (PART.num' (JX := JX) (JZ := JZ) (kX := kX) (kZ := kZ) hn hT k1 hlo hhi s0 s1 sX sZ hI sI (fun Z hJ => hJ1 _ Z hJ rfl) (fun a b c d e => h a b c d (by omega))).go (fun X hC hJ => ?_) (fun Z hM h18 hJ => ?_)
    · obtain ⟨R, r1, r2, r3⟩ := tw8_y hw hT hK hC hq
      obtain ⟨r, Y', e1, e2⟩ := tn8_t hT k1 r2 hlo hhi
      have ep : f_X8_takePair a lo hi X = some (r, Y') := by
        unfold f_X8_takePair
        rw [r1, cl_some, c1_1, i10, e1, cl_some]
        rcases e2 with rfl | rfl
        · rw [c1_0, i00]
        · rw [c1_1, i10]
      refine ⟨_, ?_, r2, sX _ _ hJ, FrC.a r3⟩
      rw [hX X Y' r hJ e2 ep]
      show _ = cl (f_X8_takeNumber lo hi (ma X 35 R)) fun r Y' => if r = 0 then some (0, Y') else kX Y'
      rw [e1, cl_some]
    · obtain ⟨R, r1, r2, r3⟩ := ww_y hw.2.1 hT hK hM hq
      have hJ' : JZ (ma Z 120 R) := sZ0 _ _ (fun q a _ _ => r3 q a) hJ
      have h18' : (ma Z 120 R) 120 18 = 0 := by rw [ma_same, r3 18 (by decide)]; exact h18
      obtain ⟨r, Y', e1, e2⟩ := nm_t (sl := sl) hT k1 r2 h18' hlo hhi (by omega) s1
      refine ⟨_, ?_, r2, h18', hJ', FrM.a r3⟩
      rw [hZ Z _ Y' r hJ hJ' e2 r1 e1]
      show _ = cl (f_X12_number sl lo hi (ma Z 120 R)) fun r Y' => if r = 0 then some (0, Y') else kZ Y'
      rw [e1, cl_some]
  · refine PART.bad (hereF t 2) hereF_r hn hK hI sI (fun X hC hJ => ?_) (fun Z hM h18 hJ => hZ0 Z _ hJ (ww_n hw.2.1 hT hK hM h18 hq))
    have ep : f_X8_takePair a lo hi X = some (0, flC X (hereF t 2) t.b) := by
      unfold f_X8_takePair
      rw [tw8_n hw hT hK hC hq, cl_some, c1_0, i00]
    rw [hX X _ 0 hJ (Or.inl rfl) ep, i00]
end logic
/-! pole and colour -/
theorem PCR.wp {r : Int} {S : Riv} {X : Mem} (h : PCR r S X) (hr : r ∈ RIV) : PCR r (S.wp 1) (ms X 37 5 1) := by
  have := RIV_c hr
  obtain ⟨⟨h1, h2, h3, h4, h5, h6⟩, h7, h8⟩ := h
  exact ⟨⟨by rw [ms_at, if_neg (by omega)]; exact h1, by rw [ms_at, if_neg (by omega)]; exact h2, by rw [ms_at, if_neg (by omega)]; exact h3, by rw [ms_at, if_neg (by omega)]; exact h4, by rw [ms_at, if_pos ⟨rfl, rfl⟩]; rfl, by rw [ms_at, if_neg (by omega)]; exact h6⟩, h7.fr (fun i a b => ms_ne (by omega)), fun b b0 b1 => by rw [ms_ne (by omega)]; exact h8 b b0 b1⟩
theorem PCR.wc {r : Int} {S : Riv} {X : Mem} (h : PCR r S X) (hr : r ∈ RIV) : PCR r (S.wc 1) (ms X 37 6 1) := by
  have := RIV_c hr
  obtain ⟨⟨h1, h2, h3, h4, h5, h6⟩, h7, h8⟩ := h
  exact ⟨⟨by rw [ms_at, if_neg (by omega)]; exact h1, by rw [ms_at, if_neg (by omega)]; exact h2, by rw [ms_at, if_neg (by omega)]; exact h3, by rw [ms_at, if_neg (by omega)]; exact h4, by rw [ms_at, if_neg (by omega)]; exact h5, by rw [ms_at, if_pos ⟨rfl, rfl⟩]; rfl⟩, h7.fr (fun i a b => ms_ne (by omega)), fun b b0 b1 => by rw [ms_ne (by omega)]; exact h8 b b0 b1⟩
theorem PCR.ws {r : Int} {S : Riv} {X : Mem} (h : PCR r S X) (hr : r ∈ RIV) : PCR r (S.ws 1) (ms X 37 3 1) := by
  have := RIV_c hr
  obtain ⟨⟨h1, h2, h3, h4, h5, h6⟩, h7, h8⟩ := h
  exact ⟨⟨by rw [ms_at, if_neg (by omega)]; exact h1, by rw [ms_at, if_neg (by omega)]; exact h2, by rw [ms_at, if_pos ⟨rfl, rfl⟩]; rfl, by rw [ms_at, if_neg (by omega)]; exact h4, by rw [ms_at, if_neg (by omega)]; exact h5, by rw [ms_at, if_neg (by omega)]; exact h6⟩, h7.fr (fun i a b => ms_ne (by omega)), fun b b0 b1 => by rw [ms_ne (by omega)]; exact h8 b b0 b1⟩
theorem PCR.wb {r : Int} {S : Riv} {X : Mem} (h : PCR r S X) (hr : r ∈ RIV) : PCR r (S.wb 1) (ms X 37 4 1) := by
  have := RIV_c hr
  obtain ⟨⟨h1, h2, h3, h4, h5, h6⟩, h7, h8⟩ := h
  exact ⟨⟨by rw [ms_at, if_neg (by omega)]; exact h1, by rw [ms_at, if_neg (by omega)]; exact h2, by rw [ms_at, if_neg (by omega)]; exact h3, by rw [ms_at, if_pos ⟨rfl, rfl⟩]; rfl, by rw [ms_at, if_neg (by omega)]; exact h5, by rw [ms_at, if_neg (by omega)]; exact h6⟩, h7.fr (fun i a b => ms_ne (by omega)), fun b b0 b1 => by rw [ms_ne (by omega)]; exact h8 b b0 b1⟩
theorem PMR.bits {S S' : Riv} {Z : Mem} {v : Int} (h : PMR S Z) (e1 : S'.A = S.A) (e2 : S'.Nm = S.Nm) (e3 : S'.rows = S.rows) (e4 : sbits S' = v) : PMR S' (ms Z 120 19 v) := by
  obtain ⟨⟨h1, h2⟩, h3, h4⟩ := h
  refine ⟨⟨by rw [ms_at, if_neg (by omega), e3]; exact h1, by rw [ms_at, if_pos ⟨rfl, rfl⟩, e4]⟩, fun q q0 q1 => by rw [ms_ne (by decide), e1]; exact h3 q q0 q1, fun b b0 b1 => ?_⟩
  rw [e1] at b1
  rw [ms_ne (by decide), e2]
  exact h4 b b0 b1
theorem FrM.s {Z : Mem} {k v : Int} (h : (18 ≤ k ∧ k ≤ 20) ∨ k = 24 ∨ k = 25) : FrM Z (ms Z 120 k v) := ⟨fun i a _ _ _ => ms_ne a, fun q a => by rw [ms_at, if_neg (by omega)], fun q _ => by rw [ms_ne (by decide)], fun q _ => by rw [ms_ne (by decide)]⟩
theorem part_pole {T : Int → Int} {n p r : Int} {t : Tok} {S : Riv} (hr : r ∈ RIV) (hn : n ≤ 900) (hT : TXT T n) (hK : TKt T n t) (hp : p ≤ t.e) (hs : GdR S) (hq : t33 T t = 18) : PRV T n p r t (PCR r S) (PMR S) f_X3_takePole (B_X12_riverPart_31 18) := by
  have hk := t33_k (T := T) (t := t) (by rw [hq]; decide)
  have hrr := RIV_c hr
  obtain ⟨⟨b1, -⟩, b2, -⟩ := bits_po S hs
  have bS := sbits_r S hs
  by_cases g : S.po = 0
  · have hs' : GdR (S.wp 1) := by
      obtain ⟨a1, a2, a3, ⟨a4, a5, a6, a7⟩, a8⟩ := hs
      exact ⟨a1, a2, a3, ⟨a4, a5, Or.inr rfl, a7⟩, a8⟩
    refine PART.mapX (gX' := fun X => cl (f_X8_takePair 19 0 16 X) fun r2 X3 => c1 r2 <| if ¬ r2 = 0 then cm RIV (X3 37 1) <| bd (ms X3 (X3 37 1) 9 (X3 35 8)) fun X5 => cl (f_X8_takeSign X5) fun r6 X7 => cz r6 (some (r6, X7)) else some (0, X3)) (JX' := PCR r (S.wp 1)) ?_ (fun X hC hJ => ⟨ms X 37 5 1, ?_, ms_cst hC (by decide) (by decide), hJ.wp hr, ms_frC (Or.inl rfl) (by decide)⟩)
    · refine PART.mapZ (gZ' := B_X12_riverPart_61 18) (JZ' := PMR (S.wp 1)) ?_ (fun Z hM h18 hJ => ⟨ms Z 120 19 (sbits (S.wp 1)), ?_, ms_mst hM (by decide) (by omega), by rw [ms_at, if_neg (by omega)]; exact h18, hJ.bits rfl rfl rfl rfl, FrM.s (by omega)⟩)
      · refine PART.pairA (kX := fun X3 => cm RIV (X3 37 1) <| bd (ms X3 (X3 37 1) 9 (X3 35 8)) fun X5 => cl (f_X8_takeSign X5) fun r6 X7 => cz r6 (some (r6, X7))) (kZ := B_X12_riverPart_230 1) (JZ1 := PMR ((S.wp 1).wA (up S.A 11 (nx T n t.e).v))) (sl := 1771) (lo := 0) (hi := 16) w33_all.2.2.2.2.2.2.2.2.2.2.2.2.2.2.2.2.2.2.1 hq hn hT hK (inI_s (by decide) (by decide)) (inI_s (by decide) (by decide)) (by decide) (by decide) (PCR.st hr) PMR.st PMR.st (fun X h => h.rb) (RB.st hr) (fun v Z h hv => by rw [← hv]; exact h.fld (i := 11) (by decide) (by decide)) (fun h1 h2 h3 h4 h5 => ?_) (fun X Y r0 _ h0 e => ?_) (fun Z Y Y' r0 _ _ h0 e1 e2 => ?_)
        · have hg := hs'.fld (i := 11) (v := (nx T n t.e).v) (by decide) (by decide) ⟨fun e => by omega, fun e => by omega, fun e => by omega, fun e => by omega, fun e => by omega, fun e => by omega, fun _ => ⟨h2, h3⟩, fun e => by omega⟩
          refine PART.mapX (end_sign (S := (S.wp 1).wA (up S.A 11 (nx T n t.e).v)) hr hn hT h4 (by have := h4.r; omega) hg) (fun X hC hJ => ⟨ms X r 9 (nx T n t.e).v, ?_, ms_cst hC (by omega) (by omega), hJ.1.fld hr (f := 9) (by decide) (by decide), ms_frC (Or.inr (by omega)) (by omega)⟩)
          show (cm RIV (X 37 1) <| bd (ms X (X 37 1) 9 (X 35 8)) fun X5 => cl (f_X8_takeSign X5) fun r6 X7 => cz r6 (some (r6, X7))) = _
          rw [hJ.1.1.1, hJ.2, cm_ok hr, bd_eq]
        · show (cl (f_X8_takePair 19 0 16 X) fun r2 X3 => c1 r2 <| if ¬ r2 = 0 then cm RIV (X3 37 1) <| bd (ms X3 (X3 37 1) 9 (X3 35 8)) fun X5 => cl (f_X8_takeSign X5) fun r6 X7 => cz r6 (some (r6, X7)) else some (0, X3)) = _
          rw [e, cl_some]
          rcases h0 with rfl | rfl
          · rw [c1_0, n00, i00]
          · rw [c1_1, n10, i10]
        · show B_X12_riverPart_61 18 Z = _
          unfold B_X12_riverPart_61
          rw [c1_okk (by decide) (by decide), if_neg (by decide), if_neg (by decide), if_neg (by decide), if_neg (by decide), if_neg (by decide), if_neg (by decide), if_neg (by decide), if_neg (by decide), if_neg (by decide), if_neg (by decide), if_neg (by decide), if_neg (by decide), if_neg (by decide), if_neg (by decide), if_neg (by decide), if_neg (by decide), if_neg (by decide), if_pos rfl, e1, cl_some, c2_ok (by decide) (by decide) (by decide) (by decide), if_neg (by decide), B_X12_riverPart_213]
          have e3 : (1760 : Int) + 11 = 1771 := rfl
          rw [e3, e2, cl_some]
          rcases h0 with rfl | rfl
          · rw [B_X12_riverPart_230, c1_0, i00, i00]
          · rw [i10]
      · have hb : Z 120 19 = sbits S := hJ.1.2
        show B_X12_riverPart_31 18 Z = _
        unfold B_X12_riverPart_31
        rw [hb, b1, g, c2_ok (by decide) (by decide) (by decide) (by decide), if_pos (by decide), b2 g, bd_eq]
    · have h5 : X 37 5 = S.po := hJ.1.2.2.2.2.1
      unfold f_X3_takePole
      rw [h5, g, c1_0, i00, cz_1, bd_eq]
  · have g1 : S.po = 1 := by
      obtain ⟨-, -, -, ⟨-, -, h, -⟩, -⟩ := hs
      omega
    refine PART.bad 5 (by decide) hn hK (fun X h => h.rb) (RB.st hr) (fun X hC hJ => ?_) (fun Z hM h18 hJ => ?_)
    · have h5 : X 37 5 = S.po := hJ.1.2.2.2.2.1
      unfold f_X3_takePole
      rw [h5, g1, c1_1, i10, fail8_eq hC, cl_some, cz_0]
    · have hb : Z 120 19 = sbits S := hJ.1.2
      unfold B_X12_riverPart_31
      rw [hb, b1, g1, c2_ok (by decide) (by decide) (by decide) (by decide), if_neg (by decide), fails_eq hK hM h18, cl_some, cz_0, if_neg (by omega)]
theorem part_colour {T : Int → Int} {n p r : Int} {t : Tok} {S : Riv} (hr : r ∈ RIV) (hn : n ≤ 900) (hT : TXT T n) (hK : TKt T n t) (hp : p ≤ t.e) (hs : GdR S) (hq : t33 T t = 19) : PRV T n p r t (PCR r S) (PMR S) f_X3_takeColour (B_X12_riverPart_31 19) := by
  have hk := t33_k (T := T) (t := t) (by rw [hq]; decide)
  have hrr := RIV_c hr
  obtain ⟨⟨-, b1, -⟩, -, b2, -⟩ := bits_po S hs
  have bS := sbits_r S hs
  by_cases g : S.co = 0
  · have hs' : GdR (S.wc 1) := by
      obtain ⟨a1, a2, a3, ⟨a4, a5, a6, a7⟩, a8⟩ := hs
      exact ⟨a1, a2, a3, ⟨a4, a5, a6, Or.inr rfl⟩, a8⟩
    refine PART.mapX (gX' := fun X => cl (f_X8_takePair 20 0 16 X) fun r2 X3 => c1 r2 <| if ¬ r2 = 0 then cm RIV (X3 37 1) <| bd (ms X3 (X3 37 1) 10 (X3 35 8)) fun X5 => cl (f_X8_takeSign X5) fun r6 X7 => cz r6 (some (r6, X7)) else some (0, X3)) (JX' := PCR r (S.wc 1)) ?_ (fun X hC hJ => ⟨ms X 37 6 1, ?_, ms_cst hC (by decide) (by decide), hJ.wc hr, ms_frC (Or.inl rfl) (by decide)⟩)
    · refine PART.mapZ (gZ' := B_X12_riverPart_61 19) (JZ' := PMR (S.wc 1)) ?_ (fun Z hM h18 hJ => ⟨ms Z 120 19 (sbits (S.wc 1)), ?_, ms_mst hM (by decide) (by omega), by rw [ms_at, if_neg (by omega)]; exact h18, hJ.bits rfl rfl rfl rfl, FrM.s (by omega)⟩)
      · refine PART.pairA (kX := fun X3 => cm RIV (X3 37 1) <| bd (ms X3 (X3 37 1) 10 (X3 35 8)) fun X5 => cl (f_X8_takeSign X5) fun r6 X7 => cz r6 (some (r6, X7))) (kZ := B_X12_riverPart_230 1) (JZ1 := PMR ((S.wc 1).wA (up S.A 12 (nx T n t.e).v))) (sl := 1772) (lo := 0) (hi := 16) w33_all.2.2.2.2.2.2.2.2.2.2.2.2.2.2.2.2.2.2.2 hq hn hT hK (inI_s (by decide) (by decide)) (inI_s (by decide) (by decide)) (by decide) (by decide) (PCR.st hr) PMR.st PMR.st (fun X h => h.rb) (RB.st hr) (fun v Z h hv => by rw [← hv]; exact h.fld (i := 12) (by decide) (by decide)) (fun h1 h2 h3 h4 h5 => ?_) (fun X Y r0 _ h0 e => ?_) (fun Z Y Y' r0 _ _ h0 e1 e2 => ?_)
        · have hg := hs'.fld (i := 12) (v := (nx T n t.e).v) (by decide) (by decide) ⟨fun e => by omega, fun e => by omega, fun e => by omega, fun e => by omega, fun e => by omega, fun e => by omega, fun e => by omega, fun _ => ⟨h2, h3⟩⟩
          refine PART.mapX (end_sign (S := (S.wc 1).wA (up S.A 12 (nx T n t.e).v)) hr hn hT h4 (by have := h4.r; omega) hg) (fun X hC hJ => ⟨ms X r 10 (nx T n t.e).v, ?_, ms_cst hC (by omega) (by omega), hJ.1.fld hr (f := 10) (by decide) (by decide), ms_frC (Or.inr (by omega)) (by omega)⟩)
          show (cm RIV (X 37 1) <| bd (ms X (X 37 1) 10 (X 35 8)) fun X5 => cl (f_X8_takeSign X5) fun r6 X7 => cz r6 (some (r6, X7))) = _
          rw [hJ.1.1.1, hJ.2, cm_ok hr, bd_eq]
        · show (cl (f_X8_takePair 20 0 16 X) fun r2 X3 => c1 r2 <| if ¬ r2 = 0 then cm RIV (X3 37 1) <| bd (ms X3 (X3 37 1) 10 (X3 35 8)) fun X5 => cl (f_X8_takeSign X5) fun r6 X7 => cz r6 (some (r6, X7)) else some (0, X3)) = _
          rw [e, cl_some]
          rcases h0 with rfl | rfl
          · rw [c1_0, n00, i00]
          · rw [c1_1, n10, i10]
        · show B_X12_riverPart_61 19 Z = _
          unfold B_X12_riverPart_61
          rw [c1_okk (by decide) (by decide), if_neg (by decide), if_neg (by decide), if_neg (by decide), if_neg (by decide), if_neg (by decide), if_neg (by decide), if_neg (by decide), if_neg (by decide), if_neg (by decide), if_neg (by decide), if_neg (by decide), if_neg (by decide), if_neg (by decide), if_neg (by decide), if_neg (by decide), if_neg (by decide), if_neg (by decide), if_neg (by decide), if_pos rfl, e1, cl_some, c2_ok (by decide) (by decide) (by decide) (by decide), if_pos (by decide), B_X12_riverPart_213]
          have e3 : (1760 : Int) + 12 = 1772 := rfl
          rw [e3, e2, cl_some]
          rcases h0 with rfl | rfl
          · rw [B_X12_riverPart_230, c1_0, i00, i00]
          · rw [i10]
      · have hb : Z 120 19 = sbits S := hJ.1.2
        show B_X12_riverPart_31 19 Z = _
        unfold B_X12_riverPart_31
        rw [hb, b1, g, c2_ok (by decide) (by decide) (by decide) (by decide), if_pos (by decide), b2 g, bd_eq]
    · have h5 : X 37 6 = S.co := hJ.1.2.2.2.2.2
      unfold f_X3_takeColour
      rw [h5, g, c1_0, i00, cz_1, bd_eq]
  · have g1 : S.co = 1 := by
      obtain ⟨-, -, -, ⟨-, -, -, h⟩, -⟩ := hs
      omega
    refine PART.bad 5 (by decide) hn hK (fun X h => h.rb) (RB.st hr) (fun X hC hJ => ?_) (fun Z hM h18 hJ => ?_)
    · have h5 : X 37 6 = S.co := hJ.1.2.2.2.2.2
      unfold f_X3_takeColour
      rw [h5, g1, c1_1, i10, fail8_eq hC, cl_some, cz_0]
    · have hb : Z 120 19 = sbits S := hJ.1.2
      unfold B_X12_riverPart_31
      rw [hb, b1, g1, c2_ok (by decide) (by decide) (by decide) (by decide), if_neg (by decide), fails_eq hK hM h18, cl_some, cz_0, if_neg (by omega)]
