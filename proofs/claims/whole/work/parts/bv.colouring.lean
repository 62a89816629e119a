/-! a colour taken in a play; cargo put off -/
theorem if_01 {p : Prop} [Decidable p] : (if p then (1 : Int) else 0) = 0 ∨ (if p then (1 : Int) else 0) = 1 := by
  by_cases h : p
  · rw [if_pos h]
    exact Or.inr rfl
  · rw [if_neg h]
    exact Or.inl rfl
theorem colour_both {X0 X : Mem} {r u f t b c : Int} {A s P T : Int → Int} (hB : BD A) (h3 : A 3 ≤ 99) (hr : r ∈ RIV) (hR : RV X0 r A) (hX : GX X0 r u f t s P T X) (hI : GI A s P) (hd : s 14 = s 9) (hb : f_X0_cellOf b X = some (c, X)) (c0 : 0 ≤ c) (c1 : c < 60) :
    ∃ (s' P' : Int → Int) (X' : Mem), f_X0_takeColour b X = some (0, X') ∧ GX X0 r u f t s' P' T X' ∧ GI A s' P' ∧ (s' 14 = s' 9 ∧ s' 0 = s 0 + 5) ∧ (∀ j : Int, j = 1 ∨ j = 3 ∨ j = 12 ∨ j = 13 → s' j = s j) ∧ ∀ (Z0 Z : Mem) (cn : Int), GZ Z0 cn A s P T Z → ∃ Z' : Mem, f_X12_coloursAt c b Z = some (0, Z') ∧ GZ Z0 cn A s' P' T Z' := by
  have hA := hB.2.1
  have hN := NS_r hA
  have b3 := hB.2.2.1
  have b12 := hB.2.2.2.2.2.2.2.2.2.2.2.1
  obtain ⟨i1, i2, i3, i4, i5, i6, i7, i8⟩ := hI
  have hX1 := hX.told (j := 0) (v := s 0 + 5) (by decide) (by decide)
  have hI1 : GI A (up s 0 (s 0 + 5)) P := GI.s (s := s) ⟨i1, i2, i3, i4, i5, i6, i7, i8⟩ fun j j0 _ _ _ => up_ne j0
  obtain ⟨d, v, d1, d2, d3, d4, d5⟩ := draw_both hX1 hI1 (n := 16) (by decide) (by decide)
  have hRX3 := d3.rv hr hR
  have e4 : (ms X 56 0 (s 0 + 5)) 56 4 = s 4 := hX1.2.2.1 4 (by decide) (by decide)
  have hq : ∀ j : Int, j ≠ 0 → j ≠ 11 → up (up s 0 (s 0 + 5)) 11 v j = s j := fun j a c => by rw [up_ne c, up_ne a]
  have ew : (ms (ms X 56 0 (s 0 + 5)) 55 11 v) r 10 = A 12 := hRX3.1.2.2.2.2.2.2.2.2.2.2
  have eo : ∀ c : Int, 0 ≤ c → c < 60 → (ms (ms X 56 0 (s 0 + 5)) 55 11 v) (r + 2) c = A (108 + c) := hRX3.2.2.1
  have hi := ia_I (ishr (s 4) b) 1
  have see : ∀ w : Int, w = 0 ∨ w = 1 → ∃ (P' : Int → Int) (X' : Mem), B_X0_takeColour_89 w c r (ms (ms X 56 0 (s 0 + 5)) 55 11 v) = some (0, X') ∧ GX X0 r u f t (up (up s 0 (s 0 + 5)) 11 v) P' T X' ∧ THr P' (NS A) ∧ ∀ (Z0 Z : Mem) (cn : Int), GZ Z0 cn A (up (up s 0 (s 0 + 5)) 11 v) P T Z → ∃ Z' : Mem, B_X12_coloursAt_59 w c Z = some (0, Z') ∧ GZ Z0 cn A (up (up s 0 (s 0 + 5)) 11 v) P' T Z' := fun w w0 => by
    have wI : inI w := by rcases w0 with rfl | rfl <;> constructor <;> decide
    obtain ⟨W, u1, u2, u3⟩ := see_p (X0 := ms (ms X 56 0 (s 0 + 5)) 55 11 v) (A := A) (P := P) (r := r) (c := c) (v := w) (p := 57) hB hr hRX3 (by decide) d3.2.2.2.1 c0 c1 wI KF 0 ((ms (ms X 56 0 (s 0 + 5)) 55 11 v) 41) (by decide) (by decide) (by rw [KF_eq]; omega) (fun s _ _ => by omega)
    rw [ma_self] at u1
    have hz : ∀ q : Int, q < 0 ∨ 32 ≤ q → W q = 0 := fun q hq => by rw [u3 q hq]; exact d3.2.2.2.2.2.1 q hq
    obtain ⟨o, P', k0, k1, k2, k3⟩ := reads_c (p := 57) (X := ms (ms X 56 0 (s 0 + 5)) 55 11 v) (P := P) (W := W) (f := fun q => wk A c w q) (N := NS A) (by decide) (by omega) i8 d3.2.2.2.1 (fun q _ _ => wk_r hB) u2 hz
    refine ⟨P', _, ?_, d3.think hz, k2, fun Z0 Z cn hZ => ?_⟩
    · unfold B_X0_takeColour_89 f_X9_seeWater
      rw [ax_ok (n := 60) c0 c1, eo c c0 c1, bd_eq, u1, B_X9_seeWater_82, k1, cl_some, cz_ok k0, cl_some]
    · obtain ⟨y1, y2, ⟨y3, y4, y5⟩, y6, y7, y8, y9⟩ := hZ
      have eN : NS (Z 121) = NS A := NS.tx y3.v
      obtain ⟨V, v1, v2, v3⟩ := colours_13 (A := Z 121) (P := P) (c := c) (v := w) y4 y5 c0 c1 wI KF 0 (Z 130) (by decide) (by omega) (by rw [KF_eq]; omega) (fun s _ _ => by omega)
      have v1 := v1 Z rfl
      rw [ma_self] at v1
      have vv : ∀ q : Int, 0 ≤ q → q < NS A → V q = P q * wk A c w q := fun q q0 q1 => by
        rw [v2 q q0 (by omega), wk.tx y3.v c0 c1]
      have vb : ∀ q : Int, 0 ≤ q → q < 32 → 0 ≤ V q ∧ V q ≤ 2000000000000 := fun q q0 q1 => by
        by_cases gq : q < NS A
        · have h1 := i8.1 q q0 q1
          have h2 := wk_r hB (c := c) (v := w) (s := q)
          rw [vv q q0 gq]
          refine ⟨Int.mul_nonneg h1.1 h2.1, ?_⟩
          have h3 := Int.mul_le_mul_of_nonneg_right (c := wk A c w q) h1.2 h2.1
          omega
        · rw [v3 q (by omega)]
          exact y7 q q0 q1
      obtain ⟨o2, B', j0, j1, j2, j3⟩ := k3 Z (Z 121) V rfl eN y5 vv vb
      refine ⟨ma (ma Z 130 V) 121 B', ?_, ?_⟩
      · unfold B_X12_coloursAt_59 f_X12_colours
        rw [ax_ok (n := 2200) (by omega) (by omega), bd_eq, v1, B_X12_colours_97, j1, cl_some, cz_ok j0, cl_some]
      · refine GZ.slot (s := up (up s 0 (s 0 + 5)) 11 v) (P := P) (Z := Z) ⟨y1, y2, ⟨y3, y4, y5⟩, y6, y7, y8, y9⟩ (fun i i1 i2 i3 => by rw [ma_ne i1, ma_ne i2]) (by rw [ma_ne (by decide), ma_same]; exact vb) (by rw [ma_same]; exact fun k _ _ kk => j3 k kk) ?_ ?_ (by rw [ma_same]; exact j2) ?_ ?_ (fun j _ _ => rfl)
        · rw [hq 14 (by decide) (by decide)]
          omega
        · rw [hq 10 (by decide) (by decide)]
          have := hB.2.2.2.1
          omega
        · rw [ma_same, j3 3 (by decide)]
          exact y2.1
        · rw [ma_same, j3 4 (by decide)]
          exact y2.2
  have key : ∀ w : Int, w = 0 ∨ w = 1 → f_X0_takeColour b X = B_X0_takeColour_89 w c r (ms (ms X 56 0 (s 0 + 5)) 55 11 v) → (∀ Z : Mem, (∃ (Z0 : Mem) (cn : Int), GZ Z0 cn A s P T Z) → f_X12_coloursAt c b Z = B_X12_coloursAt_59 w c (ms (ms Z 120 43 (s 0 + 5)) 120 41 v)) → ∃ (s' P' : Int → Int) (X' : Mem), f_X0_takeColour b X = some (0, X') ∧ GX X0 r u f t s' P' T X' ∧ GI A s' P' ∧ (s' 14 = s' 9 ∧ s' 0 = s 0 + 5) ∧ (∀ j : Int, j = 1 ∨ j = 3 ∨ j = 12 ∨ j = 13 → s' j = s j) ∧ ∀ (Z0 Z : Mem) (cn : Int), GZ Z0 cn A s P T Z → ∃ Z' : Mem, f_X12_coloursAt c b Z = some (0, Z') ∧ GZ Z0 cn A s' P' T Z' := fun w w0 hc hz => by
    obtain ⟨P', X', k1, k2, k3, k4⟩ := see w w0
    refine ⟨_, P', X', by rw [hc]; exact k1, k2, d4.thr k3, ⟨?_, ?_⟩, fun j hj => hq j (by omega) (by omega), fun Z0 Z cn hZ => ?_⟩
    · rw [hq 14 (by decide) (by decide), hq 9 (by decide) (by decide), hd]
    · rw [up_ne (by decide), up_same]
    · rw [hz Z ⟨Z0, cn, hZ⟩]
      exact k4 Z0 _ cn (d5 Z0 _ cn (hZ.one (k := 43) (j := 0) (v := s 0 + 5) (by decide))).2
  have hc : f_X0_takeColour b X = B_X0_takeColour_89 (if (if ia (ishr (s 4) b) 1 = 1 then 1 else 0) = (if A 12 ≤ d then (0 : Int) else 1) then 1 else 0) c r (ms (ms X 56 0 (s 0 + 5)) 55 11 v) := by
    have e0 : X 56 0 = s 0 := hX.2.2.1 0 (by decide) (by decide)
    have h63 : ∀ w q : Int, (w = 0 ∨ w = 1) → (q = 0 ∨ q = 1) → B_X0_takeColour_63 c w q (ms (ms X 56 0 (s 0 + 5)) 55 11 v) = B_X0_takeColour_89 (if w = q then 1 else 0) c r (ms (ms X 56 0 (s 0 + 5)) 55 11 v) := fun w q hw hq => by
      rw [B_X0_takeColour_63, d3.r, cm_ok hr, c2_ok (by omega) (by omega) (by omega) (by omega)]
      by_cases g : w = q
      · rw [if_neg (by simpa using g), if_pos g]
      · rw [if_pos g, if_neg g]
    have h41 : ∀ w : Int, (w = 0 ∨ w = 1) → B_X0_takeColour_41 c w (ms X 56 0 (s 0 + 5)) = B_X0_takeColour_89 (if w = (if A 12 ≤ d then (0 : Int) else 1) then 1 else 0) c r (ms (ms X 56 0 (s 0 + 5)) 55 11 v) := fun w hw => by
      rw [B_X0_takeColour_41, d1, cl_some, d3.r, cm_ok hr, ew, c2_ok (by omega) (by omega) (by omega) (by omega)]
      by_cases g : A 12 ≤ d
      · rw [if_pos g, if_pos g]
        exact h63 w 0 hw (Or.inl rfl)
      · rw [if_neg g, if_neg g]
        exact h63 w 1 hw (Or.inr rfl)
    unfold f_X0_takeColour
    rw [hb, cl_some, c2_ok (by omega) (by omega) (by decide) (by decide), if_pos (by omega), ax_ok (n := 7) (by decide) (by decide), ax_ok (n := 7) (by decide) (by decide), e0, bd_eq, ax_ok (n := 7) (by decide) (by decide), e4, c2_ok hi.1 hi.2 (by decide) (by decide)]
    by_cases gi : ia (ishr (s 4) b) 1 = 1
    · rw [if_neg (by simpa using gi), if_pos gi]
      exact h41 1 (Or.inr rfl)
    · rw [if_pos gi, if_neg gi]
      exact h41 0 (Or.inl rfl)
  have hz : ∀ Z : Mem, (∃ (Z0 : Mem) (cn : Int), GZ Z0 cn A s P T Z) → f_X12_coloursAt c b Z = B_X12_coloursAt_59 (if (if ia (ishr (s 4) b) 1 = 1 then 1 else 0) = (if A 12 ≤ d then (0 : Int) else 1) then 1 else 0) c (ms (ms Z 120 43 (s 0 + 5)) 120 41 v) := fun Z hZ => by
    obtain ⟨Z0, cn, hZ⟩ := hZ
    have hZ1 := hZ.one (k := 43) (j := 0) (v := s 0 + 5) (by decide)
    obtain ⟨z1, z2⟩ := d5 Z0 _ cn hZ1
    have q0 : Z 120 43 = s 0 := hZ.1.2.2.1
    have q4 : ms Z 120 43 (s 0 + 5) 120 42 = s 4 := by rw [ms_at, if_neg (by decide)]; exact hZ.1.2.1
    have q12 : (ms (ms Z 120 43 (s 0 + 5)) 120 41 v) 121 12 = A 12 := by rw [ms_ne (by decide), ms_ne (by decide)]; exact hZ.2.2.1.1 12 (by decide) (by decide) (by decide)
    unfold f_X12_coloursAt
    rw [q0, bd_eq, q4, c2_ok hi.1 hi.2 (by decide) (by decide)]
    by_cases gi : ia (ishr (s 4) b) 1 = 1
    · rw [if_neg (by simpa using gi), if_pos gi, B_X12_coloursAt_27, z1, cl_some, ax_ok (n := 2200) (by decide) (by decide), q12, c2_ok (by omega) (by omega) (by omega) (by omega)]
      by_cases g : A 12 ≤ d
      · rw [if_pos g, if_pos g, c1_okk (by decide) (by decide), if_pos (by decide), if_neg (by decide)]
      · rw [if_neg g, if_neg g, if_pos (by decide)]
    · rw [if_pos gi, if_neg gi, B_X12_coloursAt_27, z1, cl_some, ax_ok (n := 2200) (by decide) (by decide), q12, c2_ok (by omega) (by omega) (by omega) (by omega)]
      by_cases g : A 12 ≤ d
      · rw [if_pos g, if_pos g, c1_okk (by decide) (by decide), if_neg (by decide), if_pos (by decide)]
      · rw [if_neg g, if_neg g, if_neg (by decide)]
  exact key _ if_01 hc hz
/-- cargo put off: both sides -/
theorem off_both {X0 X : Mem} {r u f t n : Int} {A s P T : Int → Int} (hB : BD A) (h3 : A 3 ≤ 99) (hX : GX X0 r u f t s P T X) (hI : GI A s P) (hd : s 14 = s 9) (n0 : 0 ≤ n ∧ n ≤ 16) :
    ∃ (s' : Int → Int) (X' : Mem), f_X0_putOff (min n (A 6)) X = some (0, X') ∧ GX X0 r u f t s' P T X' ∧ GI A s' P ∧ (s' 14 = s' 9 ∧ s 0 ≤ s' 0 ∧ s' 0 ≤ s 0 + 1000) ∧ (∀ j : Int, j = 1 ∨ j = 3 ∨ j = 12 ∨ j = 13 → s' j = s j) ∧ ∀ (Z0 Z : Mem) (cn x1 x2 x3 x4 x6 : Int), GZ Z0 cn A s P T Z → ∃ Z' : Mem, B_X12_does_124 x1 x2 x3 x4 3 x6 n Z = B_X12_does_184 x1 x2 x3 x4 3 x6 n Z' ∧ GZ Z0 cn A s' P T Z' := by
  have b3 := hB.2.2.1
  have b4 := hB.2.2.2.1
  have b6 := hB.2.2.2.2.2.1
  have hI0 := hI
  obtain ⟨i1, i2, i3, i4, i5, i6, i7, i8⟩ := hI
  have e10 : X 55 10 = s 10 := hX.2.1.2.1
  have e0 : X 56 0 = s 0 := hX.2.2.1 0 (by decide) (by decide)
  have hm : 0 ≤ min n (A 6) ∧ min n (A 6) ≤ A 6 := by omega
  have hz : ∀ (Z0 Z : Mem) (cn x1 x2 x3 x4 x6 : Int), GZ Z0 cn A s P T Z → B_X12_does_124 x1 x2 x3 x4 3 x6 n Z = B_X12_does_184 x1 x2 x3 x4 3 x6 n (ms (ms Z 121 4 (s 10 + max 0 (min n (A 6) - s 10))) 120 43 (s 0 + 20 * max 0 (min n (A 6) - s 10))) := fun Z0 Z cn x1 x2 x3 x4 x6 hZ => by
    have q6 : Z 121 6 = A 6 := hZ.2.2.1.1 6 (by decide) (by decide) (by decide)
    have q4 : Z 121 4 = s 10 := hZ.2.1.2
    have q0 : ms Z 121 4 (s 10 + max 0 (min n (A 6) - s 10)) 120 43 = s 0 := by rw [ms_ne (by decide)]; exact hZ.1.2.2.1
    unfold B_X12_does_124
    rw [c2_ok (by omega) (by omega) (by omega) (by omega), if_neg (by simp), ax_ok (n := 2200) (by decide) (by decide), q6, c2_ok (by omega) (by omega) (by omega) (by omega), ax_ok (n := 2200) (by decide) (by decide), q4, bd_eq, ax_ok (n := 2200) (by decide) (by decide), c2_ok (by omega) (by omega) (by omega) (by omega), ax_ok (n := 2200) (by decide) (by decide), bd_eq, c2_ok (by omega) (by omega) (by omega) (by omega), q0, bd_eq]
  by_cases g : min n (A 6) ≤ s 10
  · refine ⟨s, X, ?_, hX, hI0, ⟨hd, by omega, by omega⟩, fun _ _ => rfl, fun Z0 Z cn x1 x2 x3 x4 x6 hZ => ⟨_, hz Z0 Z cn x1 x2 x3 x4 x6 hZ, ?_⟩⟩
    · unfold f_X0_putOff
      rw [e10, c2_ok (by omega) (by omega) (by omega) (by omega), if_pos g]
    · have m0 : max 0 (min n (A 6) - s 10) = 0 := by omega
      have q4 : Z 121 4 = s 10 := hZ.2.1.2
      have q0 : Z 120 43 = s 0 := hZ.1.2.2.1
      rw [m0, show s 10 + 0 = Z 121 4 by omega, ms_self, show s 0 + 20 * 0 = Z 120 43 by omega, ms_self]
      exact hZ
  · have m0 : max 0 (min n (A 6) - s 10) = min n (A 6) - s 10 := by omega
    have hX1 := hX.told (j := 0) (v := s 0 + 20 * (min n (A 6) - s 10)) (by decide) (by decide)
    refine ⟨up (up s 0 (s 0 + 20 * (min n (A 6) - s 10))) 10 (min n (A 6)), _, ?_, hX1.off, ?_, ⟨?_, ?_, ?_⟩, fun j hj => by rw [up_ne (by omega), up_ne (by omega)], fun Z0 Z cn x1 x2 x3 x4 x6 hZ => ⟨_, hz Z0 Z cn x1 x2 x3 x4 x6 hZ, ?_⟩⟩
    · unfold f_X0_putOff
      rw [e10, c2_ok (by omega) (by omega) (by omega) (by omega), if_neg g, ax_ok (n := 7) (by decide) (by decide), ax_ok (n := 7) (by decide) (by decide), e0, bd_eq, bd_eq]
    · unfold GI
      simp only [up_at]
      refine ⟨by simpa using i1, by simpa using i2, by simpa using i3, ?_, by simpa using i5, by simpa using i6, by simpa using i7, i8⟩
      simp
      omega
    · rw [up_ne (by decide), up_ne (by decide), up_ne (by decide), up_ne (by decide), hd]
    · rw [up_ne (by decide), up_same]
      omega
    · rw [up_ne (by decide), up_same]
      omega
    · rw [m0, show s 10 + (min n (A 6) - s 10) = min n (A 6) by omega]
      have hZ1 : GZ Z0 cn A (up s 10 (min n (A 6))) P T (ms Z 121 4 (min n (A 6))) := by
        have y1 := hZ.2.2.1
        refine GZ.slot hZ (fun i i1 _ _ => ms_ne i1) (by rw [ms_ne (by decide)]; exact hZ.2.2.2.2.1) (fun k _ k4 _ => by rw [ms_at, if_neg (by omega)]) ?_ ?_ ?_ ?_ ?_ (fun j _ j10 => up_ne j10)
        · rw [up_ne (by decide), hd]
          omega
        · rw [up_same]
          exact hm
        · exact y1.2.2.of y1.2.1.2.1 (by rw [ms_at, if_neg (by decide)]) (fun k k0 k1 => by rw [ms_at, if_neg (by omega)])
        · rw [up_ne (by decide), ms_at, if_neg (by decide)]
          exact hZ.2.1.1
        · rw [up_same, ms_at, if_pos (by decide)]
      have hZ2 := hZ1.one (k := 43) (j := 0) (v := s 0 + 20 * (min n (A 6) - s 10)) (by decide)
      have e : up (up s 10 (min n (A 6))) 0 (s 0 + 20 * (min n (A 6) - s 10)) = up (up s 0 (s 0 + 20 * (min n (A 6) - s 10))) 10 (min n (A 6)) := by
        funext q
        rw [up_at, up_at, up_at, up_at]
        by_cases q0 : q = 0
        · rw [if_pos q0, if_neg (by omega), if_pos q0]
        · rw [if_neg q0]
          by_cases q1 : q = 10
          · rw [if_pos q1, if_pos q1]
          · rw [if_neg q1, if_neg q1, if_neg q0]
      rw [← e]
      exact hZ2
