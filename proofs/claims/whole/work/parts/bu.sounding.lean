/-! several days; a sounding and a colour taken in a play -/
theorem waits_both {X0 : Mem} {r u f t n p : Int} {A T : Int → Int} (hB : BD A) (h3 : A 3 ≤ 99) (hr : r ∈ RIV) (hR : RV X0 r A) (hn : 0 ≤ n ∧ n ≤ 16) : ∀ (k : Nat) (i : Int) (s P : Int → Int) (X : Mem), 0 ≤ i → i ≤ n → (n - i).toNat < k → GX X0 r u f t s P T X → GI A s P → s 14 = s 9 → s 3 + (n - i) ≤ 900 →
    ∃ (s' P' : Int → Int) (X' : Mem), L_X0_doStep_87 k p n i X = some (p + 1, X') ∧ GX X0 r u f t s' P' T X' ∧ GI A s' P' ∧ (s' 14 = s' 9 ∧ s' 0 = s 0 + 1440 * (n - i) ∧ s' 3 = s 3 + (n - i)) ∧ (∀ j : Int, j = 1 ∨ j = 12 ∨ j = 13 → s' j = s j) ∧ ∀ (Z0 Z : Mem) (cn x1 x2 x3 x4 x5 x6 : Int), GZ Z0 cn A s P T Z → ∃ Z' : Mem, L_X12_does_107 k x1 x2 x3 x4 x5 x6 n i Z = B_X12_does_124 x1 x2 x3 x4 x5 x6 n Z' ∧ GZ Z0 cn A s' P' T Z' := by
  intro k
  induction k with
  | zero => intro i s P X _ _ h; omega
  | succ k ih =>
    intro i s P X i0 i1 hk hX hI hd h9
    by_cases g : n ≤ i
    · have e : n - i = 0 := by omega
      refine ⟨s, P, X, ?_, hX, hI, ⟨hd, by rw [e]; omega, by rw [e]; omega⟩, fun _ _ => rfl, fun Z0 Z cn x1 x2 x3 x4 x5 x6 hZ => ⟨Z, ?_, hZ⟩⟩
      · rw [L_X0_doStep_87, c2_ok (by omega) (by omega) (by omega) (by omega), if_pos g, B_X0_doStep_103, B_X0_doStep_170]
      · rw [L_X12_does_107, c2_ok (by omega) (by omega) (by omega) (by omega), if_pos g]
    · obtain ⟨s1, P1, X1, a1, a2, a3, ⟨a4, a5, a6⟩, a7, a8⟩ := wait_both hB h3 hr hR hX hI hd (by omega)
      obtain ⟨s2, P2, X2, b1, b2, b3, ⟨b4, b5, b6⟩, b7, b8⟩ := ih (i + 1) s1 P1 X1 (by omega) (by omega) (by omega) a2 a3 a4 (by omega)
      refine ⟨s2, P2, X2, ?_, b2, b3, ⟨b4, by omega, by omega⟩, fun j hj => by rw [b7 j hj, a7 j hj], fun Z0 Z cn x1 x2 x3 x4 x5 x6 hZ => ?_⟩
      · rw [L_X0_doStep_87, c2_ok (by omega) (by omega) (by omega) (by omega), if_neg g, a1, cl_some]
        exact b1
      · obtain ⟨Z1, z1, z2⟩ := a8 Z0 Z cn hZ
        obtain ⟨Z2, y1, y2⟩ := b8 Z0 Z1 cn x1 x2 x3 x4 x5 x6 z2
        refine ⟨Z2, ?_, y2⟩
        rw [L_X12_does_107, c2_ok (by omega) (by omega) (by omega) (by omega), if_neg g, z1, cl_some]
        exact y1
theorem lk.tx {A B : Int → Int} (e : EQV A B) {d v : Int} : lk B d v = lk A d v := by
  unfold lk
  rw [e 11 (by decide)]
theorem dep.tx {A B : Int → Int} (h : BD A) (e : EQV A B) {st c x : Int} (c0 : 0 ≤ c) (c1 : c < 60) : dep B st c x = dep A st c x := by
  unfold dep
  rw [tk.exr h e.r c0 c1, e _ (by omega)]
theorem wk.tx {A B : Int → Int} (e : EQV A B) {c v s : Int} (c0 : 0 ≤ c) (c1 : c < 60) : wk B c v s = wk A c v s := by
  unfold wk
  rw [e 12 (by decide), e (108 + c) (by omega)]
theorem cell_c {X0 X : Mem} {r u f t b : Int} {s P T A : Int → Int} (hB : BD A) (hr : r ∈ RIV) (hR : RV X0 r A) (hX : GX X0 r u f t s P T X) (b0 : 0 ≤ b) (b1 : b < 5) : ∃ l : Int, f_X0_cellOf b X = some (l, X) ∧ (A 2 ≤ b → l = -1) ∧ (b < A 2 → LE A b l) := by
  have hRX := hX.rv hr hR
  have hA := hB.2.1
  have e2 : X r 2 = A 2 := hRX.1.2.2.1
  unfold f_X0_cellOf
  rw [c1_okk (by omega) (by omega), if_neg (by omega), hX.r, cm_ok hr, e2, c2_ok (by omega) (by omega) (by omega) (by omega)]
  by_cases g : A 2 ≤ b
  · rw [if_pos g]
    exact ⟨-1, rfl, fun _ => rfl, fun h => by omega⟩
  · rw [if_neg g, cm_ok hr, ax_ok (n := 5) b0 b1]
    exact ⟨_, rfl, fun h => absurd h g, fun h => hRX.2.2.2.2.2.1 b b0 h⟩
theorem GI.thr {A s P P' : Int → Int} (h : GI A s P) (hP : THr P' (NS A)) : GI A s P' := by
  obtain ⟨h1, h2, h3, h4, h5, h6, h7, -⟩ := h
  exact ⟨h1, h2, h3, h4, h5, h6, h7, hP⟩
theorem sound_both {X0 X : Mem} {r u f t b c : Int} {A s P T : Int → Int} (hB : BD A) (h3 : A 3 ≤ 99) (hr : r ∈ RIV) (hR : RV X0 r A) (hX : GX X0 r u f t s P T X) (hI : GI A s P) (hd : s 14 = s 9) (h2 : s 2 < s 1) (hb : f_X0_cellOf b X = some (c, X)) (c0 : 0 ≤ c) (c1 : c < 60) :
    ∃ (s' P' : Int → Int) (X' : Mem), f_X0_takeSounding b X = some (0, X') ∧ GX X0 r u f t s' P' T X' ∧ GI A s' P' ∧ (s' 14 = s' 9 ∧ s' 0 = s 0 + 30) ∧ (∀ j : Int, j = 1 ∨ j = 3 ∨ j = 12 ∨ j = 13 → s' j = s j) ∧ ∀ (Z0 Z : Mem) (cn : Int), GZ Z0 cn A s P T Z → ∃ Z' : Mem, f_X12_soundsAt c Z = some (0, Z') ∧ GZ Z0 cn A s' P' T Z' := by
  have hA := hB.2.1
  have hN := NS_r hA
  have b3 := hB.2.2.1
  have b11 := hB.2.2.2.2.2.2.2.2.2.2.1
  obtain ⟨i1, i2, i3, i4, i5, i6, i7, i8⟩ := hI
  have hX1 := hX.told (j := 0) (v := s 0 + 30) (by decide) (by decide)
  have hX2 := hX1.told (j := 2) (v := s 2 + 1) (by decide) (by decide)
  have hI2 : GI A (up (up s 0 (s 0 + 30)) 2 (s 2 + 1)) P := by
    unfold GI
    simp only [up_at]
    refine ⟨by simpa using i1, ?_, by simpa using i3, by simpa using i4, by simpa using i5, by simpa using i6, by simpa using i7, i8⟩
    simp
    omega
  obtain ⟨d, v, d1, d2, d3, d4, d5⟩ := draw_both hX2 hI2 (n := 32) (by decide) (by decide)
  have hRX2 := hX2.rv hr hR
  have hRX3 := d3.rv hr hR
  have e9 : (ms (ms X 56 0 (s 0 + 30)) 56 2 (s 2 + 1)) 55 9 = s 9 := hX2.2.1.1
  have e4 : (ms (ms X 56 0 (s 0 + 30)) 56 2 (s 2 + 1)) 56 4 = s 4 := hX2.2.2.1 4 (by decide) (by decide)
  have hq : ∀ j : Int, j ≠ 0 → j ≠ 2 → j ≠ 11 → up (up (up s 0 (s 0 + 30)) 2 (s 2 + 1)) 11 v j = s j := fun j a b c => by rw [up_ne c, up_ne b, up_ne a]
  have e9' : (ms (ms (ms X 56 0 (s 0 + 30)) 56 2 (s 2 + 1)) 55 11 v) 55 9 = s 9 := by rw [ms_at, if_neg (by decide)]; exact e9
  have ep : (ms (ms (ms X 56 0 (s 0 + 30)) 56 2 (s 2 + 1)) 55 11 v) r 9 = A 11 := hRX3.1.2.2.2.2.2.2.2.2.2.1
  have hdp := depd_r hB (c := c) (x := s 4) (d := s 9) c0 c1 (by omega)
  -- what is heard
  have hear : ∀ w : Int, -100 ≤ w → w ≤ 100 → ∃ (P' : Int → Int) (X' : Mem), B_X0_takeSounding_104 c w (ms (ms (ms X 56 0 (s 0 + 30)) 56 2 (s 2 + 1)) 55 11 v) = some (0, X') ∧ GX X0 r u f t (up (up (up s 0 (s 0 + 30)) 2 (s 2 + 1)) 11 v) P' T X' ∧ THr P' (NS A) ∧ ∀ (Z0 Z : Mem) (cn : Int), GZ Z0 cn A (up (up (up s 0 (s 0 + 30)) 2 (s 2 + 1)) 11 v) P T Z → ∃ Z' : Mem, B_X12_soundsAt_80 w c Z = some (0, Z') ∧ GZ Z0 cn A (up (up (up s 0 (s 0 + 30)) 2 (s 2 + 1)) 11 v) P' T Z' := fun w w0 w1 => by
    obtain ⟨W, u1, u2, u3⟩ := hear_p (X0 := ms (ms (ms X 56 0 (s 0 + 30)) 56 2 (s 2 + 1)) 55 11 v) (A := A) (P := P) (r := r) (c := c) (v := w) (d := s 9) (p := 57) hB hr hRX3 (by decide) d3.2.2.2.1 c0 c1 (by omega) (by omega) KF 0 ((ms (ms (ms X 56 0 (s 0 + 30)) 56 2 (s 2 + 1)) 55 11 v) 41) (by decide) (by decide) (by rw [KF_eq]; omega) (fun s _ _ => by omega)
    rw [ma_self] at u1
    have hz : ∀ q : Int, q < 0 ∨ 32 ≤ q → W q = 0 := fun q hq => by rw [u3 q hq]; exact d3.2.2.2.2.2.1 q hq
    obtain ⟨o, P', k0, k1, k2, k3⟩ := reads_c (p := 57) (X := ms (ms (ms X 56 0 (s 0 + 30)) 56 2 (s 2 + 1)) 55 11 v) (P := P) (W := W) (f := fun q => lk A (dep A (stg A (s 9)) c q) w) (N := NS A) (by decide) (by omega) i8 d3.2.2.2.1 (fun q _ _ => lk_r hB) u2 hz
    refine ⟨P', _, ?_, d3.think hz, k2, fun Z0 Z cn hZ => ?_⟩
    · unfold B_X0_takeSounding_104 f_X9_hearPole
      rw [d3.r, cm_ok hr, e9', stageOn_eq hRX3 hB (by omega) (by omega), cl_some, u1, B_X9_hearPole_56, k1, cl_some, cz_ok k0, cl_some]
    · obtain ⟨y1, y2, ⟨y3, y4, y5⟩, y6, y7, y8, y9⟩ := hZ
      have y14 : Z 121 3 = s 9 := by rw [y2.1, hq 14 (by decide) (by decide) (by decide), hd]
      have eN : NS (Z 121) = NS A := NS.tx y3.v
      obtain ⟨V, v1, v2, v3⟩ := sounds_2 (A := Z 121) (P := P) (c := c) (v := w) y4 y5 c0 c1 (by omega) KF 0 (Z 130) (by decide) (by omega) (by rw [KF_eq]; omega) (fun s _ _ => by omega)
      have v1 := v1 Z rfl
      rw [ma_self] at v1
      have vv : ∀ q : Int, 0 ≤ q → q < NS A → V q = P q * lk A (dep A (stg A (s 9)) c q) w := fun q q0 q1 => by
        rw [v2 q q0 (by omega), y14, lk.tx y3.v, stg.tx hB y3.v (by omega), dep.tx hB y3.v c0 c1]
      have vb : ∀ q : Int, 0 ≤ q → q < 32 → 0 ≤ V q ∧ V q ≤ 2000000000000 := fun q q0 q1 => by
        by_cases gq : q < NS A
        · have h1 := i8.1 q q0 q1
          have h2 := lk_r hB (d := dep A (stg A (s 9)) c q) (v := w)
          rw [vv q q0 gq]
          refine ⟨Int.mul_nonneg h1.1 h2.1, ?_⟩
          have h3 := Int.mul_le_mul_of_nonneg_right (c := lk A (dep A (stg A (s 9)) c q) w) h1.2 h2.1
          omega
        · rw [v3 q (by omega)]
          exact y7 q q0 q1
      obtain ⟨o2, B', j0, j1, j2, j3⟩ := k3 Z (Z 121) V rfl eN y5 vv vb
      refine ⟨ma (ma Z 130 V) 121 B', ?_, ?_⟩
      · unfold B_X12_soundsAt_80 f_X12_sounds
        rw [v1, B_X12_sounds_46, j1, cl_some, cz_ok j0, cl_some]
      · refine GZ.slot (s := up (up (up s 0 (s 0 + 30)) 2 (s 2 + 1)) 11 v) (P := P) (Z := Z) ⟨y1, y2, ⟨y3, y4, y5⟩, y6, y7, y8, y9⟩ (fun i i1 i2 i3 => by rw [ma_ne i1, ma_ne i2]) (by rw [ma_ne (by decide), ma_same]; exact vb) (by rw [ma_same]; exact fun k _ _ kk => j3 k kk) ?_ ?_ (by rw [ma_same]; exact j2) ?_ ?_ (fun j _ _ => rfl)
        · rw [hq 14 (by decide) (by decide) (by decide)]
          omega
        · rw [hq 10 (by decide) (by decide) (by decide)]
          have := hB.2.2.2.1
          omega
        · rw [ma_same, j3 3 (by decide)]
          exact y2.1
        · rw [ma_same, j3 4 (by decide)]
          exact y2.2
  -- the reading
  have key : ∀ w : Int, -100 ≤ w → w ≤ 100 → f_X0_takeSounding b X = B_X0_takeSounding_104 c w (ms (ms (ms X 56 0 (s 0 + 30)) 56 2 (s 2 + 1)) 55 11 v) → (∀ Z : Mem, (∃ (Z0 : Mem) (cn : Int), GZ Z0 cn A s P T Z) → f_X12_soundsAt c Z = B_X12_soundsAt_80 w c (ms (ms (ms Z 120 43 (s 0 + 30)) 120 45 (s 2 + 1)) 120 41 v)) → ∃ (s' P' : Int → Int) (X' : Mem), f_X0_takeSounding b X = some (0, X') ∧ GX X0 r u f t s' P' T X' ∧ GI A s' P' ∧ (s' 14 = s' 9 ∧ s' 0 = s 0 + 30) ∧ (∀ j : Int, j = 1 ∨ j = 3 ∨ j = 12 ∨ j = 13 → s' j = s j) ∧ ∀ (Z0 Z : Mem) (cn : Int), GZ Z0 cn A s P T Z → ∃ Z' : Mem, f_X12_soundsAt c Z = some (0, Z') ∧ GZ Z0 cn A s' P' T Z' := fun w w0 w1 hc hz => by
    obtain ⟨P', X', k1, k2, k3, k4⟩ := hear w w0 w1
    refine ⟨_, P', X', by rw [hc]; exact k1, k2, d4.thr k3, ⟨?_, ?_⟩, fun j hj => hq j (by omega) (by omega) (by omega), fun Z0 Z cn hZ => ?_⟩
    · rw [hq 14 (by decide) (by decide) (by decide), hq 9 (by decide) (by decide) (by decide), hd]
    · rw [up_ne (by decide), up_ne (by decide), up_same]
    · have hZ1 := hZ.one (k := 43) (j := 0) (v := s 0 + 30) (by decide)
      have hZ2 := hZ1.one (k := 45) (j := 2) (v := s 2 + 1) (by decide)
      rw [hz Z ⟨Z0, cn, hZ⟩]
      exact k4 Z0 _ cn (d5 Z0 _ cn hZ2).2
  have hc : f_X0_takeSounding b X = (if d < 2 * A 11 then B_X0_takeSounding_104 c (dep A (stg A (s 9)) c (s 4)) (ms (ms (ms X 56 0 (s 0 + 30)) 56 2 (s 2 + 1)) 55 11 v) else if 16 + A 11 ≤ d then B_X0_takeSounding_104 c (dep A (stg A (s 9)) c (s 4) + -1) (ms (ms (ms X 56 0 (s 0 + 30)) 56 2 (s 2 + 1)) 55 11 v) else B_X0_takeSounding_104 c (dep A (stg A (s 9)) c (s 4) + 1) (ms (ms (ms X 56 0 (s 0 + 30)) 56 2 (s 2 + 1)) 55 11 v)) := by
    have e0 : X 56 0 = s 0 := hX.2.2.1 0 (by decide) (by decide)
    have e2 : ms X 56 0 (s 0 + 30) 56 2 = s 2 := by rw [ms_at, if_neg (by decide)]; exact hX.2.2.1 2 (by decide) (by decide)
    unfold f_X0_takeSounding
    rw [hb, cl_some, c2_ok (by omega) (by omega) (by decide) (by decide), if_pos (by omega), ax_ok (n := 7) (by decide) (by decide), ax_ok (n := 7) (by decide) (by decide), e0, bd_eq, ax_ok (n := 7) (by decide) (by decide), ax_ok (n := 7) (by decide) (by decide), e2, bd_eq, hX2.r, cm_ok hr, cm_ok hr, e9, stageOn_eq hRX2 hB (by omega) (by omega), cl_some, ax_ok (n := 7) (by decide) (by decide), e4, depthAt_eq hRX2 hB c0 c1, cl_some, d1, cl_some, d3.r, cm_ok hr, ep, c2_ok (by omega) (by omega) (by omega) (by omega)]
    split
    · rfl
    · rw [cm_ok hr, c2_ok (by omega) (by omega) (by omega) (by omega), B_X0_takeSounding_102, B_X0_takeSounding_102, bd_eq, bd_eq]
  have hz : ∀ Z : Mem, (∃ (Z0 : Mem) (cn : Int), GZ Z0 cn A s P T Z) → f_X12_soundsAt c Z = (if 2 * A 11 ≤ d then if 16 + A 11 ≤ d then B_X12_soundsAt_80 (dep A (stg A (s 9)) c (s 4) - 1) c (ms (ms (ms Z 120 43 (s 0 + 30)) 120 45 (s 2 + 1)) 120 41 v) else B_X12_soundsAt_80 (dep A (stg A (s 9)) c (s 4) + 1) c (ms (ms (ms Z 120 43 (s 0 + 30)) 120 45 (s 2 + 1)) 120 41 v) else B_X12_soundsAt_80 (dep A (stg A (s 9)) c (s 4)) c (ms (ms (ms Z 120 43 (s 0 + 30)) 120 45 (s 2 + 1)) 120 41 v)) := fun Z hZ => by
    obtain ⟨Z0, cn, hZ⟩ := hZ
    have hZ1 := hZ.one (k := 43) (j := 0) (v := s 0 + 30) (by decide)
    have hZ2 := hZ1.one (k := 45) (j := 2) (v := s 2 + 1) (by decide)
    obtain ⟨z1, z2⟩ := d5 Z0 _ cn hZ2
    have q0 : Z 120 43 = s 0 := hZ.1.2.2.1
    have q2 : ms Z 120 43 (s 0 + 30) 120 45 = s 2 := by rw [ms_at, if_neg (by decide)]; exact hZ.1.2.2.2.1
    have q4 : (ms (ms (ms Z 120 43 (s 0 + 30)) 120 45 (s 2 + 1)) 120 41 v) 120 42 = s 4 := by rw [z2.1.2.1, hq 4 (by decide) (by decide) (by decide)]
    have e121 : (ms (ms (ms Z 120 43 (s 0 + 30)) 120 45 (s 2 + 1)) 120 41 v) 121 = Z 121 := by rw [ms_ne (by decide), ms_ne (by decide), ms_ne (by decide)]
    have y14 : Z 121 3 = s 9 := by rw [hZ.2.1.1, hd]
    have y3 := hZ.2.2.1.1
    unfold f_X12_soundsAt
    rw [q0, bd_eq, q2, bd_eq, z1, cl_some, q4, depthOf_eq (by rw [e121]; exact hZ.2.2.1.2.1) c0 c1, cl_some, e121, y14, stg.tx hB y3.v (by omega), dep.tx hB y3.v c0 c1, ax_ok (n := 2200) (by decide) (by decide), y3 11 (by decide) (by decide) (by decide), c2_ok (by omega) (by omega) (by omega) (by omega)]
    by_cases g : 2 * A 11 ≤ d
    · rw [if_pos g, if_pos g, ax_ok (n := 2200) (by decide) (by decide), c2_ok (by omega) (by omega) (by omega) (by omega)]
    · rw [if_neg g, if_neg g]
  by_cases g1 : d < 2 * A 11
  · rw [if_pos g1] at hc
    exact key _ (by omega) (by omega) hc fun Z hZ => by rw [hz Z hZ, if_neg (by omega)]
  · rw [if_neg g1] at hc
    by_cases g2 : 16 + A 11 ≤ d
    · rw [if_pos g2] at hc
      exact key _ (by omega) (by omega) hc fun Z hZ => by rw [hz Z hZ, if_pos (by omega), if_pos g2]; congr 1
    · rw [if_neg g2] at hc
      exact key _ (by omega) (by omega) hc fun Z hZ => by rw [hz Z hZ, if_pos (by omega), if_neg g2]
