/-! the best chance at another day or lightness -/
theorem WAYP.exr {A B : Int → Int} (h : BD A) (e : EQR A B) {nd f to a : Int} (f0 : 0 ≤ f) (f1 : f < 60) (hW : WAYP A nd f to a) : WAYP B nd f to a := by
  obtain ⟨V, h1, h2, h3⟩ := hW
  exact ⟨V, h1.exr h e, (opn.exr h e f0 f1).mpr h2, h3⟩
theorem EQR.symm {A B : Int → Int} (e : EQR A B) : EQR B A := fun k hk => (e k hk).symm
theorem sur_at {cn : Int} {Z : Mem} {A B P : Int → Int} {f to : Int} (hA : BD A) (hZ : Z 121 = B) (hE : EQV A B) (hB : BD B) (hT : TH P B) (hC : CK cn Z) (hn : cn ≤ 1000) (f0 : 0 ≤ f) (f1 : f < A 0 * A 1) (t0 : 0 ≤ to) (t1 : to < A 0 * A 1) :
    ∃ (a : Int) (Y : Mem), f_X12_surestOf f to Z = some (a, Y) ∧ (∀ i k : Int, ¬ (i = 120 ∧ 31 ≤ k ∧ k ≤ 34) → i ≠ 132 → i ≠ 133 → i ≠ 134 → Y i k = Z i k) ∧ CK cn Y ∧ ((a = -1 ∧ ∀ b : Int, 0 ≤ b → b < NS A → ¬ WAYP A (ND B) f to b) ∨ ((0 ≤ a ∧ a < NS A) ∧ WAYP A (ND B) f to a ∧ ∀ b : Int, 0 ≤ b → b < NS A → WAYP A (ND B) f to b → pS P 0 b ≤ pS P 0 a)) := by
  have hc := BD_cells hA
  have e01 : B 0 * B 1 = A 0 * A 1 := by rw [hE 0 (by decide), hE 1 (by decide)]
  have eN : NS B = NS A := NS.tx hE
  obtain ⟨a, Y, r1, r2, r3, r4, r5⟩ := surestOf_eq (P := P) (f := f) (to := to) (X := Z) (by rw [hZ]; exact hB) hC hn (by rw [hZ]; exact hT) f0 (by rw [hZ, e01]; exact f1) t0 (by rw [hZ, e01]; exact t1)
  rw [hZ, eN] at r5
  refine ⟨a, Y, r1, r2, r3, ?_⟩
  rcases r5 with ⟨r5, r6⟩ | r5
  · exact Or.inl ⟨r5, fun b b0 b1 hb => r6 b b0 b1 (hb.exr hA hE.r f0 (by omega))⟩
  · obtain ⟨s1, s2, s3, s4, s5⟩ := r5
    rw [eN] at s1
    refine Or.inr ⟨s1, s2.exr hB hE.r.symm f0 (by omega), fun b b0 b1 hb => ?_⟩
    have := s5 b b0 (by rw [eN]; exact b1) (hb.exr hA hE.r f0 (by omega))
    omega
theorem grd {X : Mem} {A w : Int → Int} {r d o f to p : Int} (hr : r ∈ RIV) (hR : RV X r A) (hB : BD A) (d0 : 0 ≤ d) (d1 : d ≤ 5000) (o0 : 0 ≤ o) (o1 : o ≤ A 6) (f0 : 0 ≤ f) (f1 : f < A 0 * A 1) (t0 : 0 ≤ to) (t1 : to < A 0 * A 1) (hw : WT A w) (hXp : X p = w) (hp : p = 18 ∨ p = 59) :
    ∃ (v : Int) (Y1 Y2 : Mem), f_X1_look r d o X = some (0, Y1) ∧ f_X1_search f to Y1 = some (v, Y2) ∧ (∀ i k : Int, ¬ SCR i k → Y2 i k = X i k) ∧ Y2 p = w ∧ ((v = 0 ∧ ∀ b : Int, 0 ≤ b → b < NS A → ¬ WAYP A (A 5 - o - stg A d) f to b) ∨
      (v = 1 ∧ ∃ (m : Int) (S : Int → Int), f_X1_bestOf p Y2 = some (m, ma Y2 45 S) ∧ (0 ≤ m ∧ m ≤ 1000000000000000) ∧ (∃ a : Int, (0 ≤ a ∧ a < NS A) ∧ WAYP A (A 5 - o - stg A d) f to a ∧ m = pS w 0 a) ∧ ∀ b : Int, 0 ≤ b → b < NS A → WAYP A (A 5 - o - stg A d) f to b → pS w 0 b ≤ m)) := by
  have hN := NS_r hB.2.1
  obtain ⟨v, Y1, Y2, e1, e2, e3, e4, e5, e6, e7, e8, e9, e10, -⟩ := ground_eq hr hR hB d0 d1 o0 o1 f0 f1 t0 t1
  have y2p : Y2 p = w := by rw [e3 p (by omega) (by omega) (by omega) (by omega)]; exact hXp
  refine ⟨v, Y1, Y2, e1, e2, fun i k hs => ?_, y2p, ?_⟩
  · by_cases e : i = 42
    · subst e
      by_cases ek : k = 7
      · subst ek
        exact e4
      · exact absurd (by unfold SCR; omega) hs
    · rw [e3 i e (by unfold SCR at hs; omega) (by unfold SCR at hs; omega) (by unfold SCR at hs; omega)]
  · by_cases hwp : WAYP A (A 5 - o - stg A d) f to (NS A - 1)
    · refine Or.inr ⟨e9 hwp, ?_⟩
      obtain ⟨m, S, b1, ⟨b2, b3, b4⟩, -⟩ := bestOf_eq (p := p) (w := w) hB e5 e8 (by rw [y2p]; exact hw) y2p
      refine ⟨m, S, b1, b2, ?_, b3⟩
      rcases b4 with ⟨-, b4⟩ | b4
      · exact absurd hwp (b4 _ (by omega) (by omega))
      · exact b4
    · refine Or.inl ⟨e10 hwp, fun b b0 b1 hb => hwp ?_⟩
      exact hb.sub hB f0 f1 (fix_ex hB d0 d1 o0 o1 t0 t1 (by omega) (by omega)) (sub_all hB.2.1 b0 b1)
/-- the reference's now-state, but for how light -/
def LZ (A : Int → Int) (Z : Mem) : Prop := (∀ k : Int, k ≠ 4 → Z 121 k = A k) ∧ (0 ≤ Z 121 4 ∧ Z 121 4 ≤ A 6)
theorem light_lk {cn : Int} {X0 : Mem} {f to p : Int} (h : REL cn X0) (hcn : cn ≤ 600) (f0 : 0 ≤ f) (f1 : f < X0 121 0 * X0 121 1) (t0 : 0 ≤ to) (t1 : to < X0 121 0 * X0 121 1) (hp : 1 ≤ p ∧ p ≤ 16) : ∀ (k : Nat) (o : Int) (X : Mem), 0 ≤ o → o ≤ X0 121 6 + 1 → (X0 121 6 + 1 - o).toNat + 1 < k → (∀ i k : Int, ¬ SCR i k → X i k = X0 i k) →
    ∃ (g : Int) (Y : Mem), L_X11_lighten_36 k f to p o X = (if g = -1 then some (-1, ms Y 0 16 6) else some (g, ms Y 0 16 0)) ∧ (∀ i k : Int, ¬ SCR i k → Y i k = X0 i k) ∧ (g = -1 ∨ (0 ≤ g ∧ g ≤ 9)) ∧
      ∀ (Z : Mem) (v : Int), LZ (X0 121) Z → CK cn Z → ∃ Z' : Mem, L_X12_lighten_41 k f to p v (-1) o Z = B_X12_lighten_112 v g Z' ∧ LZ (X0 121) Z' ∧ (∀ i k : Int, ¬ (i = 120 ∧ 31 ≤ k ∧ k ≤ 34) → i ≠ 121 → i ≠ 132 → i ≠ 133 → i ≠ 134 → Z' i k = Z i k) ∧ CK cn Z' := by
  obtain ⟨n1, n2, n3, n4, n5, n6⟩ := h.now
  have hN := NS_r n3.2.1
  have b3 := n3.2.2.1
  have b6 := n3.2.2.2.2.2.1
  have hrc := RIV_c n1
  intro k
  induction k with
  | zero => intro o X _ _ h; omega
  | succ k ih =>
    intro o X o0 o1 hk hX
    have e2 : X 2 0 = X0 2 0 := hX 2 0 (by unfold SCR; omega)
    have e23 : X 2 3 = X0 121 3 := by rw [hX 2 3 (by unfold SCR; omega), n4]
    have er : ∀ i : Int, (3 ≤ i ∧ i ≤ 29) ∨ (70 ≤ i ∧ i ≤ 113) → X i = X0 i := fun i hi => funext fun k => hX i k (by unfold SCR; omega)
    have hRX : RV X (X0 2 0) (X0 121) := n2.fr2 n1 er
    have e18 : X 18 = X0 18 := er 18 (by omega)
    rw [L_X11_lighten_36, e2, cm_ok n1, hRX.1.2.2.2.2.1, c2_ok (by omega) (by omega) (by omega) (by omega)]
    have eM : ∀ (Z : Mem) (v : Int), LZ (X0 121) Z → ∀ o', L_X12_lighten_41 (k + 1) f to p v (-1) o Z = o' → _ := fun Z v hZ o' ho => by
      rw [L_X12_lighten_41, ax_ok (n := 2200) (by decide) (by decide), hZ.1 6 (by decide), c2_ok (by omega) (by omega) (by omega) (by omega)] at ho
      exact ho
    by_cases g : X0 121 6 < o
    · refine ⟨-1, X, ?_, hX, Or.inl rfl, fun Z v hZ hC => ⟨Z, ?_, hZ, fun i k _ _ _ _ _ => rfl, hC⟩⟩
      · rw [if_pos g, B_X11_lighten_127, fail_eq, cl_some, if_pos rfl]
      · rw [← eM Z v hZ _ rfl, if_pos g]
    · obtain ⟨v, Y1, Y2, g1, g2, g3, g4, g5⟩ := grd (X := X) (A := X0 121) (w := X0 18) (r := X0 2 0) (d := X0 121 3) (o := o) (f := f) (to := to) (p := 18) n1 hRX n3 b3.1 b3.2 o0 (by omega) f0 f1 t0 t1 n6.wt e18 (Or.inl rfl)
      have hY2 : ∀ i k : Int, ¬ SCR i k → Y2 i k = X0 i k := fun i k q => by rw [g3 i k q]; exact hX i k q
      -- the reference at this lightness
      have hM : ∀ (Z : Mem), LZ (X0 121) Z → CK cn Z → ∃ (a : Int) (Z1 : Mem), f_X12_surestOf f to (ms Z 121 4 o) = some (a, Z1) ∧ LZ (X0 121) Z1 ∧ (∀ i k : Int, ¬ (i = 120 ∧ 31 ≤ k ∧ k ≤ 34) → i ≠ 121 → i ≠ 132 → i ≠ 133 → i ≠ 134 → Z1 i k = Z i k) ∧ CK cn Z1 ∧ (∀ q : Int, f_X12_partsOf 0 q Z1 = some (pS (X0 18) 0 q, Z1)) ∧ ((a = -1 ∧ ∀ b : Int, 0 ≤ b → b < NS (X0 121) → ¬ WAYP (X0 121) (X0 121 5 - o - stg (X0 121) (X0 121 3)) f to b) ∨ ((0 ≤ a ∧ a < NS (X0 121)) ∧ WAYP (X0 121) (X0 121 5 - o - stg (X0 121) (X0 121 3)) f to a ∧ ∀ b : Int, 0 ≤ b → b < NS (X0 121) → WAYP (X0 121) (X0 121 5 - o - stg (X0 121) (X0 121 3)) f to b → pS (X0 18) 0 b ≤ pS (X0 18) 0 a)) := fun Z hZ hC => by
        have w4 : ∀ k : Int, k ≠ 4 → ms Z 121 4 o 121 k = X0 121 k := fun k hk => by rw [ms_at, if_neg (fun e => hk e.2)]; exact hZ.1 k hk
        have w44 : ms Z 121 4 o 121 4 = o := by rw [ms_at, if_pos ⟨rfl, rfl⟩]
        have hE : EQV (X0 121) (ms Z 121 4 o 121) := fun k hk => w4 k (by omega)
        have hBB : BD (ms Z 121 4 o 121) := n3.tx hE (by rw [w4 3 (by decide)]; exact b3) (by rw [w44]; omega)
        have hTT : TH (X0 18) (ms Z 121 4 o 121) := n6.of n3.2.1 (w4 2 (by decide)) fun k k0 k1 => w4 k (by omega)
        have hZB : BD (Z 121) := n3.tx (fun k hk => hZ.1 k (by omega)) (by rw [hZ.1 3 (by decide)]; exact b3) hZ.2
        have hCC : CK cn (ms Z 121 4 o) := CK.fr hZB hC (by rw [ms_ne (by decide)]) (by rw [ms_ne (by decide)]) (by rw [ms_ne (by decide)]) (by rw [ms_ne (by decide)]) (by rw [ms_ne (by decide)]) (ms_ne (by decide)) (fun k hk => by rw [ms_at, if_neg (by omega)])
        obtain ⟨a, Z1, r1, r2, r3, r4⟩ := sur_at (Z := ms Z 121 4 o) (A := X0 121) (P := X0 18) (f := f) (to := to) n3 rfl hE hBB hTT hCC (by omega) f0 f1 t0 t1
        have z121 : Z1 121 = ms Z 121 4 o 121 := funext fun k => r2 121 k (by omega) (by decide) (by decide) (by decide)
        have eND : ND (ms Z 121 4 o 121) = X0 121 5 - o - stg (X0 121) (X0 121 3) := by
          unfold ND
          rw [w44, w4 5 (by decide), w4 3 (by decide), stg.tx n3 hE b3.1]
        rw [eND] at r4
        refine ⟨a, Z1, r1, ⟨fun k hk => by rw [z121]; exact w4 k hk, by rw [z121, w44]; omega⟩, fun i k q1 q2 q3 q4 q5 => by rw [r2 i k q1 q3 q4 q5, ms_ne q2], r3, fun q => partsOf_eq (by rw [z121]; exact hTT) (by rw [z121]; exact hBB.2.1) (inI_s (by decide) (by decide)), r4⟩
      have e116 : ∀ (Z : Mem) (v : Int), LZ (X0 121) Z → CK cn Z → ∃ (a : Int) (Z1 : Mem), LZ (X0 121) Z1 ∧ (∀ i k : Int, ¬ (i = 120 ∧ 31 ≤ k ∧ k ≤ 34) → i ≠ 121 → i ≠ 132 → i ≠ 133 → i ≠ 134 → Z1 i k = Z i k) ∧ CK cn Z1 ∧ ((a = -1 ∧ (∀ b : Int, 0 ≤ b → b < NS (X0 121) → ¬ WAYP (X0 121) (X0 121 5 - o - stg (X0 121) (X0 121 3)) f to b) ∧ L_X12_lighten_41 (k + 1) f to p v (-1) o Z = L_X12_lighten_41 k f to p v (-1) (o + 1) Z1) ∨ ((0 ≤ a ∧ a < NS (X0 121)) ∧ WAYP (X0 121) (X0 121 5 - o - stg (X0 121) (X0 121 3)) f to a ∧ (∀ b : Int, 0 ≤ b → b < NS (X0 121) → WAYP (X0 121) (X0 121 5 - o - stg (X0 121) (X0 121 3)) f to b → pS (X0 18) 0 b ≤ pS (X0 18) 0 a) ∧ L_X12_lighten_41 (k + 1) f to p v (-1) o Z = if 16 * pS (X0 18) 0 a < p * 1000000 then L_X12_lighten_41 k f to p v (-1) (o + 1) Z1 else L_X12_lighten_41 k f to p v o (o + 1) Z1)) := fun Z v hZ hC => by
        obtain ⟨a, Z1, r1, r2, r3, r4, r5, r6⟩ := hM Z hZ hC
        refine ⟨a, Z1, r2, r3, r4, ?_⟩
        rw [← eM Z v hZ _ rfl, if_neg g, c2_ok (by decide) (by decide) (by decide) (by decide), if_neg (by decide), ax_ok (n := 2200) (by decide) (by decide), bd_eq, r1, cl_some]
        rcases r6 with ⟨r6, r7⟩ | ⟨r6, r7, r8⟩
        · refine Or.inl ⟨r6, r7, ?_⟩
          rw [r6, c2_ok (by decide) (by decide) (by decide) (by decide), if_pos rfl, B_X12_lighten_106]
        · refine Or.inr ⟨r6, r7, r8, ?_⟩
          have hp1 := TH_r n6 (a := 0) (b := a)
          rw [c2_ok (by omega) (by omega) (by decide) (by decide), if_neg (by omega), r5, cl_some, c1_okk (by omega) (by omega), d2_ok (by omega) (by omega) (by omega) (by omega)]
          by_cases gg : 16 * pS (X0 18) 0 a < p * 1000000
          · rw [if_pos gg, if_pos gg, B_X12_lighten_106]
          · rw [if_neg gg, if_neg gg, B_X12_lighten_106]
      rw [if_neg g, cm_ok n1, e23, g1, cl_some, g2, cl_some]
      rcases g5 with ⟨v0, gno⟩ | ⟨v1, m, S, s1, s2, ⟨a, s3, s4, s5⟩, s6⟩
      · obtain ⟨gg, Y, i1, i2, i3, i4⟩ := ih (o + 1) Y2 (by omega) (by omega) (by omega) hY2
        refine ⟨gg, Y, ?_, i2, i3, fun Z v hZ hC => ?_⟩
        · rw [v0, c1_okk (by decide) (by decide), if_pos rfl, B_X11_lighten_121, i1]
        · obtain ⟨a, Z1, z1, z2, z3, z4⟩ := e116 Z v hZ hC
          rcases z4 with ⟨-, -, z4⟩ | ⟨z4, z5, -⟩
          · obtain ⟨Z', j1, j2, j3, j4⟩ := i4 Z1 v z1 z3
            exact ⟨Z', by rw [z4, j1], j2, fun i k q1 q2 q3 q4 q5 => by rw [j3 i k q1 q2 q3 q4 q5, z2 i k q1 q2 q3 q4 q5], j4⟩
          · exact absurd z5 (gno a z4.1 z4.2)
      · have hp1 := TH_r n6 (a := 0) (b := a)
        have hY3 : ∀ i k : Int, ¬ SCR i k → ma Y2 45 S i k = X0 i k := fun i k q => by rw [ma_ne (by unfold SCR at q; omega)]; exact hY2 i k q
        have ea : ∀ a' : Int, 0 ≤ a' → a' < NS (X0 121) → WAYP (X0 121) (X0 121 5 - o - stg (X0 121) (X0 121 3)) f to a' → (∀ b : Int, 0 ≤ b → b < NS (X0 121) → WAYP (X0 121) (X0 121 5 - o - stg (X0 121) (X0 121 3)) f to b → pS (X0 18) 0 b ≤ pS (X0 18) 0 a') → pS (X0 18) 0 a' = m := fun a' a0 a1 a2 a3 => by
          have := s6 a' a0 a1 a2
          have := a3 a s3.1 s3.2 s4
          omega
        by_cases gg : m * 16 < p * 1000000
        · obtain ⟨g', Y, i1, i2, i3, i4⟩ := ih (o + 1) (ma Y2 45 S) (by omega) (by omega) (by omega) hY3
          refine ⟨g', Y, ?_, i2, i3, fun Z v hZ hC => ?_⟩
          · rw [v1, c1_okk (by decide) (by decide), if_neg (by decide), s1, cl_some, c1_okk (by omega) (by omega), d2_ok (by omega) (by omega) (by omega) (by omega), if_pos gg, B_X11_lighten_121, i1]
          · obtain ⟨a', Z1, z1, z2, z3, z4⟩ := e116 Z v hZ hC
            rcases z4 with ⟨-, z4, -⟩ | ⟨z4, z5, z6, z7⟩
            · exact absurd s4 (z4 a s3.1 s3.2)
            · obtain ⟨Z', j1, j2, j3, j4⟩ := i4 Z1 v z1 z3
              have := ea a' z4.1 z4.2 z5 z6
              exact ⟨Z', by rw [z7, if_pos (by omega), j1], j2, fun i k q1 q2 q3 q4 q5 => by rw [j3 i k q1 q2 q3 q4 q5, z2 i k q1 q2 q3 q4 q5], j4⟩
        · refine ⟨o, ma Y2 45 S, ?_, hY3, Or.inr ⟨o0, by omega⟩, fun Z v hZ hC => ?_⟩
          · rw [v1, c1_okk (by decide) (by decide), if_neg (by decide), s1, cl_some, c1_okk (by omega) (by omega), d2_ok (by omega) (by omega) (by omega) (by omega), if_neg gg, B_X11_lighten_114, answer_eq, cl_some, if_neg (by omega)]
          · obtain ⟨a', Z1, z1, z2, z3, z4⟩ := e116 Z v hZ hC
            rcases z4 with ⟨-, z4, -⟩ | ⟨z4, z5, z6, z7⟩
            · exact absurd s4 (z4 a s3.1 s3.2)
            · have := ea a' z4.1 z4.2 z5 z6
              refine ⟨Z1, ?_, z1, z2, z3⟩
              obtain ⟨k, rfl⟩ : ∃ j : Nat, k = j + 1 := ⟨k - 1, by omega⟩
              rw [z7, if_neg (by omega), L_X12_lighten_41, ax_ok (n := 2200) (by decide) (by decide), z1.1 6 (by decide), c2_ok (by omega) (by omega) (by omega) (by omega)]
              by_cases gl : X0 121 6 < o + 1
              · rw [if_pos gl]
              · rw [if_neg gl, c2_ok (by omega) (by omega) (by decide) (by decide), if_pos (by omega)]
theorem q_lighten : pair_40 REL := by
  intro f to p hf ht hp cn X hcn h
  obtain ⟨n1, n2, n3, n4, n5, n6⟩ := h.now
  have hN := NS_r n3.2.1
  have b6 := n3.2.2.2.2.2.1
  have hpJ : inJ p := ⟨by have := hp.1; omega, by have := hp.2; omega⟩
  have eM : ∀ v : Int, ms X 0 16 v 121 = X 121 := fun v => s16 (by decide)
  show OUT cn (f_X11_lighten f to p) (f_X12_lighten f to p) X
  by_cases gc : ((0 ≤ f ∧ f < X 121 0 * X 121 1) ∧ (0 ≤ to ∧ to < X 121 0 * X 121 1)) ∧ 1 ≤ p ∧ p ≤ 16
  · obtain ⟨⟨g1, g2⟩, g3⟩ := gc
    obtain ⟨g, Y, y1, y2, y3, y4⟩ := light_lk (cn := cn) (X0 := X) (f := f) (to := to) (p := p) h hcn.2 g1.1 g1.2 g2.1 g2.2 g3 KF 0 X (by decide) (by omega) (by rw [KF_eq]; omega) (fun _ _ _ => rfl)
    have eC : f_X11_lighten f to p X = if g = -1 then some (-1, ms Y 0 16 6) else some (g, ms Y 0 16 0) := by
      unfold f_X11_lighten
      rw [isCell_eq n1 n2 n3 hf, if_pos g1, cl_some, c1_okk (by decide) (by decide), if_neg (by decide), isCell_eq n1 n2 n3 ht, if_pos g2, cl_some, c1_okk (by decide) (by decide), if_neg (by decide), c2_ok hp.1 hp.2 (by decide) (by decide), if_neg (by omega), c2_ok hp.1 hp.2 (by decide) (by decide), if_pos g3.2, y1]
    have hfin : ∀ st : Int, 0 ≤ st → st ≤ 100 → ∃ Z : Mem, f_X12_lighten f to p (ms Y 0 16 st) = (if g = -1 then some (-1, ms Z 120 2 6) else some (g, ms Z 120 2 0)) ∧ (∀ i k : Int, ¬ SCR i k → ¬ CKC i k → Z i k = ms Y 0 16 st i k) ∧ CK cn Z := fun st st0 st1 => by
      obtain ⟨b1, b2, b3⟩ := h.scr (Y := ms Y 0 16 st) (fun i k q1 q2 => by rw [ms_at, if_neg (by unfold ANS at q2; omega)]; exact y2 i k q1)
      obtain ⟨Z', j1, j2, j3, j4⟩ := y4 (ms Y 0 16 st) (X 121 4) ⟨fun k _ => by rw [b2], by rw [b2]; exact n3.2.2.2.1⟩ b3
      have hB' : BD (Z' 121) := n3.tx (fun k hk => j2.1 k (by omega)) (by rw [j2.1 3 (by decide)]; exact n3.2.2.1) j2.2
      refine ⟨ms Z' 121 4 (X 121 4), ?_, fun i k q1 q2 => ?_, ?_⟩
      · unfold f_X12_lighten
        rw [areCells_eq b1 hf ht, b2, if_pos ⟨g1, g2⟩, cl_some, c1_okk (by decide) (by decide), if_neg (by decide), c1_okk hp.1 hp.2, isFrom_eq hpJ (by constructor <;> decide) (by constructor <;> decide), if_pos g3, cl_some, c1_okk (by decide) (by decide), if_pos (by decide), ax_ok (n := 2200) (by decide) (by decide), bd_eq, b2, j1, B_X12_lighten_112, ax_ok (n := 2200) (by decide) (by decide), bd_eq, c2_ok (by omega) (by omega) (by decide) (by decide)]
        by_cases gg : g = -1
        · rw [if_neg (by simpa using gg), if_pos gg, refusem_eq, cl_some]
        · rw [if_pos gg, if_neg gg, gives_eq, cl_some]
      · by_cases e : i = 121
        · subst e
          rw [ms_at]
          by_cases ek : k = 4
          · rw [if_pos ⟨rfl, ek⟩, b2, ek]
          · rw [if_neg (fun e => ek e.2), j2.1 k ek, b2]
        · rw [ms_ne e, j3 i k (by unfold CKC at q2; omega) e (by unfold SCR at q1; omega) (by unfold SCR at q1; omega) (by unfold CKC at q2; omega)]
      · exact CK.fr hB' j4 (by rw [ms_ne (by decide)]) (by rw [ms_ne (by decide)]) (by rw [ms_ne (by decide)]) (by rw [ms_ne (by decide)]) (by rw [ms_ne (by decide)]) (ms_ne (by decide)) (fun k hk => by rw [ms_at, if_neg (by omega)])
    by_cases gg : g = -1
    · obtain ⟨Z, z1, z2, z3⟩ := hfin 6 (by decide) (by decide)
      exact out_scr h y2 (r := -1) (v := 6) (by decide) (by decide) inI_m1 (by rw [eC, if_pos gg]) ⟨Z, by rw [z1, if_pos gg], z2, z3⟩
    · obtain ⟨Z, z1, z2, z3⟩ := hfin 0 (by decide) (by decide)
      exact out_scr h y2 (r := g) (v := 0) (by decide) (by decide) (inI_s (by omega) (by omega)) (by rw [eC, if_neg gg]) ⟨Z, by rw [z1, if_neg gg], z2, z3⟩
  · refine out_st h (r := -1) (v := 1) (by decide) (by decide) inI_m1 ?_ ?_
    · unfold f_X11_lighten
      rw [isCell_eq n1 n2 n3 hf, cl_some]
      by_cases g1 : 0 ≤ f ∧ f < X 121 0 * X 121 1
      · rw [if_pos g1, c1_okk (by decide) (by decide), if_neg (by decide), isCell_eq n1 n2 n3 ht, cl_some]
        by_cases g2 : 0 ≤ to ∧ to < X 121 0 * X 121 1
        · rw [if_pos g2, c1_okk (by decide) (by decide), if_neg (by decide), c2_ok hp.1 hp.2 (by decide) (by decide)]
          by_cases g3 : p < 1
          · rw [if_pos g3, B_X11_lighten_27, fail_eq, cl_some]
          · rw [if_neg g3, c2_ok hp.1 hp.2 (by decide) (by decide), if_neg (fun e => gc ⟨⟨g1, g2⟩, by omega, e⟩), B_X11_lighten_27, fail_eq, cl_some]
        · rw [if_neg g2, c1_okk (by decide) (by decide), if_pos rfl, B_X11_lighten_27, fail_eq, cl_some]
      · rw [if_neg g1, c1_okk (by decide) (by decide), if_pos rfl, B_X11_lighten_27, fail_eq, cl_some]
    · unfold f_X12_lighten
      rw [areCells_eq (by rw [eM]; exact n3) hf ht, eM, cl_some]
      by_cases g12 : (0 ≤ f ∧ f < X 121 0 * X 121 1) ∧ (0 ≤ to ∧ to < X 121 0 * X 121 1)
      · rw [if_pos g12, c1_okk (by decide) (by decide), if_neg (by decide), c1_okk hp.1 hp.2, isFrom_eq hpJ (by constructor <;> decide) (by constructor <;> decide), if_neg (fun e => gc ⟨g12, e⟩), cl_some, c1_okk (by decide) (by decide), if_neg (by decide), B_X12_lighten_21, refusem_eq, cl_some]
      · rw [if_neg g12, c1_okk (by decide) (by decide), if_pos rfl, B_X12_lighten_21, refusem_eq, cl_some]
