/-! one whole play -/
def PZ (Zs : Mem) (cn : Int) (A T : Int → Int) (Z : Mem) : Prop := Z 121 = A ∧ (∀ o : Int, 0 ≤ o → o < 60 → Z 138 o = max 0 (T o - 1)) ∧ (∀ q : Int, 0 ≤ q → q < 32 → 0 ≤ Z 130 q ∧ Z 130 q ≤ 2000000000000) ∧ CK cn Z ∧ ∀ i k : Int, i ≠ 121 → i ≠ 130 → i ≠ 131 → i ≠ 132 → i ≠ 133 → i ≠ 134 → i ≠ 137 → i ≠ 138 → ¬ (i = 120 ∧ ((31 ≤ k ∧ k ≤ 34) ∨ (39 ≤ k ∧ k ≤ 49))) → Z i k = Zs i k
def TOLD (s : Int → Int) (v : Int) (Z : Mem) : Prop := Z 120 43 = s 0 ∧ Z 120 44 = s 1 ∧ Z 120 45 = s 2 ∧ Z 120 46 = s 3 ∧ Z 120 42 = s 4 ∧ Z 120 47 = s 5 ∧ Z 120 48 = s 6 ∧ Z 120 49 = v
theorem plays_z {Zs Z : Mem} {cn tr sd sd' f t v : Int} {A T Px : Int → Int} {s' P' T' P : Int → Int} (hB : BD A) (hZ : PZ Zs cn A T Z) (hcn : cn ≤ 1000) (hT : TH Px A) (hP : ∀ q : Int, 0 ≤ q → q < 32 → P q = Px q) (hdr : ∀ Z : Mem, Z 121 = A → TH Px A → Z 120 41 = sd → f_X12_drawTruth Z = some (0, ms (ms Z 120 41 sd') 120 42 tr)) (hE : ENDS s' v) (hl : ∀ (Z0 Z : Mem) (cn : Int) (kz : Nat), cn ≤ 1000 → (101 - SB A tr sd' 1).toNat < kz → GZ Z0 cn A (SB A tr sd') P T Z → ∃ Z' : Mem, L_X12_plays_46 kz f t 0 Z = B_X12_plays_124 (s' 6) Z' ∧ GZ Z0 cn A s' P' T' Z') :
    ∃ Z' : Mem, f_X12_plays f t sd Z = some (0, Z') ∧ PZ Zs cn A T' Z' ∧ TOLD s' v Z' := by
  have hN := NS_r hB.2.1
  obtain ⟨y1, y2, y3, y4, y5⟩ := hZ
  obtain ⟨Y, k1, k2, k3, k4, k5⟩ := keeps_eq (Z := Z)
  have kr : ∀ i : Int, i ≠ 137 → i ≠ 120 → Y i = Z i := fun i a b => funext fun k => k2 i k a (by omega)
  have k121 : Y 121 = A := by rw [kr 121 (by decide) (by decide), y1]
  obtain ⟨W, hW⟩ : ∃ W : Mem, W = ms (ms (ms (ms (ms (ms (ms (ms (ms Y 120 41 sd) 120 43 0) 120 44 0) 120 45 0) 120 46 0) 120 47 (-1)) 120 49 3) 120 41 sd') 120 42 tr := ⟨_, rfl⟩
  have wr : ∀ i : Int, i ≠ 120 → W i = Y i := fun i hi => by
    rw [hW, ms_ne hi, ms_ne hi, ms_ne hi, ms_ne hi, ms_ne hi, ms_ne hi, ms_ne hi, ms_ne hi, ms_ne hi]
  have wk : ∀ k : Int, k < 41 ∨ 49 < k → W 120 k = Y 120 k := fun k hk => by
    rw [hW, ms_at, if_neg (by omega), ms_at, if_neg (by omega), ms_at, if_neg (by omega), ms_at, if_neg (by omega), ms_at, if_neg (by omega), ms_at, if_neg (by omega), ms_at, if_neg (by omega), ms_at, if_neg (by omega), ms_at, if_neg (by omega)]
  have yk : ∀ k : Int, k ≠ 39 → k ≠ 40 → Y 120 k = Z 120 k := fun k a b => k2 120 k (by decide) (by omega)
  have hBZ : BD (Z 121) := by rw [y1]; exact hB
  have hGW : GZ Y cn A (SB A tr sd') P T W := by
    refine ⟨?_, ?_, ⟨?_, ?_, ?_⟩, ?_, ?_, ?_, fun i k a1 a2 a3 a4 a5 a6 a7 a8 => ?_⟩
    · rw [hW]
      simp [ms_at, SB]
    · rw [wr 121 (by decide), k121]
      exact ⟨rfl, rfl⟩
    · rw [wr 121 (by decide), k121]
      exact fun _ _ _ _ => rfl
    · rw [wr 121 (by decide), k121]
      exact hB
    · rw [wr 121 (by decide), k121]
      exact hT.row hP hN
    · rw [wr 138 (by decide), kr 138 (by decide) (by decide)]
      exact y2
    · rw [wr 130 (by decide), kr 130 (by decide) (by decide)]
      exact y3
    · have e : ∀ k : Int, k < 39 → W 120 k = Z 120 k := fun k hk => by rw [wk k (by omega), yk k (by omega) (by omega)]
      exact CK.fr hBZ y4 (e 22 (by decide)) (e 31 (by decide)) (e 32 (by decide)) (e 33 (by decide)) (e 34 (by decide)) (by rw [wr 134 (by decide), kr 134 (by decide) (by decide)]) (by rw [wr 121 (by decide), k121, y1]; exact fun _ _ => rfl)
    · by_cases g : i = 120
      · subst g
        exact wk k (by omega)
      · rw [wr i g]
  obtain ⟨Z', z1, z2⟩ := hl Y W cn KF hcn (by rw [KF_eq]; simp [SB]) hGW
  obtain ⟨c1, c2, ⟨c3, c4, c5⟩, c6, c7, c8, c9⟩ := z2
  have e48 : ∀ i : Int, i ≠ 120 → ms Z' 120 48 (s' 6) i = Z' i := fun i hi => ms_ne hi
  have hbr : f_X12_brings (ms Z' 120 48 (s' 6)) = some (0, ma (ms Z' 120 48 (s' 6)) 121 A) := brings_eq (fun s s0 s1 => by
    rw [e48 137 (by decide), c9 137 s (by decide) (by decide) (by decide) (by decide) (by decide) (by decide) (by decide) (by omega), k3 s s0 s1, y1]) (by
    rw [ms_at, if_neg (by decide), c9 120 39 (by decide) (by decide) (by decide) (by decide) (by decide) (by decide) (by decide) (by decide), k4, y1]) (by
    rw [ms_at, if_neg (by decide), c9 120 40 (by decide) (by decide) (by decide) (by decide) (by decide) (by decide) (by decide) (by decide), k5, y1]) (fun k a b c => by
    rw [e48 121 (by decide)]
    exact c3 k a b c)
  refine ⟨ma (ms Z' 120 48 (s' 6)) 121 A, ?_, ⟨ma_same, ?_, ?_, ?_, fun i k a1 a2 a3 a4 a5 a6 a7 a8 a9 => ?_⟩, ?_⟩
  · unfold f_X12_plays
    have hd := hdr (ms (ms (ms (ms (ms (ms (ms Y 120 41 sd) 120 43 0) 120 44 0) 120 45 0) 120 46 0) 120 47 (-1)) 120 49 3) (by rw [ms_ne (by decide), ms_ne (by decide), ms_ne (by decide), ms_ne (by decide), ms_ne (by decide), ms_ne (by decide), ms_ne (by decide), k121]) hT (by simp [ms_at])
    rw [k1, cl_some, bd_eq, bd_eq, bd_eq, bd_eq, bd_eq, bd_eq, bd_eq, hd, cl_some, ← hW, z1, B_X12_plays_124, bd_eq, hbr, cl_some]
  · rw [ma_ne (by decide), e48 138 (by decide)]
    exact c6
  · rw [ma_ne (by decide), e48 130 (by decide)]
    exact c7
  · have e : ∀ k : Int, k ≠ 48 → ma (ms Z' 120 48 (s' 6)) 121 A 120 k = Z' 120 k := fun k hk => by rw [ma_ne (by decide), ms_at, if_neg (by omega)]
    exact CK.fr c4 c8 (e 22 (by decide)) (e 31 (by decide)) (e 32 (by decide)) (e 33 (by decide)) (e 34 (by decide)) (by rw [ma_ne (by decide), e48 134 (by decide)]) (by rw [ma_same]; exact fun k hk => (c3 k (by omega) (by omega) (by omega)).symm)
  · rw [ma_ne a1, ms_at, if_neg (by omega), c9 i k a1 a2 a3 a4 a5 a6 a8 (by omega), k2 i k a7 (by omega)]
    exact y5 i k a1 a2 a3 a4 a5 a6 a7 a8 a9
  · obtain ⟨w1, w2, w3, w4, w5, w6, w7, w8⟩ := c1
    obtain ⟨-, -, -, -, -, -, -, -, u1, u2⟩ := hE
    unfold TOLD
    rw [ma_ne (by decide), ms_at, ms_at, ms_at, ms_at, ms_at, ms_at, ms_at, ms_at, if_neg (by decide), if_neg (by decide), if_neg (by decide), if_neg (by decide), if_neg (by decide), if_neg (by decide), if_pos (by decide), if_neg (by decide)]
    exact ⟨w3, by rw [w7, u2], w4, w5, w2, w6, rfl, by rw [w8, u1]⟩
theorem one_play {X0 X : Mem} {A : Int → Int} {f t sd lo : Int} (hB : BD A) (h3 : A 3 ≤ 99) (h2 : X0 2 0 ∈ RIV) (h2u : X0 2 1 ∈ RUL) (hR : RV X0 (X0 2 0) A) (hU : RU X0 (X0 2 1) A) (hz : 0 < A 14 → X0 (X0 2 1 + 1) 0 ≠ 0) (e3 : X0 2 3 = A 3) (e4 : X0 2 4 = A 4) (hT : TH (X0 18) A) (hX : PG X0 X) (hlo : -1900000000 ≤ lo ∧ lo ≤ 0) (hTB : TB lo (X 58)) (f0 : 0 ≤ f) (f1 : f < A 0 * A 1) (t0 : 0 ≤ t) (t1 : t < A 0 * A 1) (sd0 : 0 ≤ sd) (sd1 : sd ≤ 9999) :
    ∃ (v : Int) (s' : Int → Int) (Y X' : Mem), f_X0_begin 2 f t sd X = some (0, Y) ∧ f_X0_follow Y = some (v, X') ∧ PG X0 X' ∧ (∀ k : Int, 0 ≤ k → k < 7 → X' 56 k = s' k) ∧ ENDS s' v ∧ TB (lo - 95000) (X' 58) ∧ ∀ (Zs Z : Mem) (cn : Int), cn ≤ 1000 → PZ Zs cn A (X 58) Z → ∃ Z' : Mem, f_X12_plays f t sd Z = some (0, Z') ∧ PZ Zs cn A (X' 58) Z' ∧ TOLD s' v Z' := by
  have b14 := hB.2.2.2.2.2.2.2.2.2.2.2.2.2.1
  obtain ⟨tr, sd', P, Y, p1, p2, p3, p4, p5⟩ := begin_play (f := f) (t := t) hB h2 h2u hR e3 e4 hT.r hX sd0 sd1
  have hS := SUMT_le hTB
  obtain ⟨v, s', P', T', X', q1, q2, q3, q4, q5⟩ := play_loop (lo := lo) hB h3 h2 hR h2u hU f0 f1 t0 t1 hlo 101 KF 0 0 (SB A tr sd') P (X 58) Y (by simp [SB]) (by decide) (by decide) (fun h => hz h) (by decide) (by unfold PHI; simp only [SB]; simp; omega) (by rw [KF_eq]; omega) (hTB.mono (by omega)) p3 p4 (by simp [SB]) (by simp [SB]) (by simp [SB]) (by simp [SB]) (by simp [SB])
  have e58 : X' 58 = T' := q2.2.2.2.2.1
  refine ⟨v, s', Y, X', p1, q1, ⟨q2.2.2.2.2.2.1, q2.2.2.2.2.2.2.1, q2.2.2.2.2.2.2.2⟩, q2.2.2.1, q3, by rw [e58]; exact q4, fun Zs Z cn hcn hZ => ?_⟩
  rw [e58]
  exact plays_z hB hZ hcn hT p2 p5 q3 q5
