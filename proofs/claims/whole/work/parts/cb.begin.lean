/-! one play from its beginning -/
def SB (A : Int → Int) (tr sd : Int) : Int → Int := fun j => if j = 4 then tr else if j = 5 then -1 else if j = 9 then A 3 else if j = 10 then A 4 else if j = 11 then sd else if j = 12 then 3 else if j = 14 then A 3 else 0
def PG (X0 X : Mem) : Prop := (∀ q : Int, q < 0 ∨ 32 ≤ q → X 41 q = 0) ∧ (∀ i : Int, i ≤ 40 ∨ (48 ≤ i ∧ i ≤ 54) ∨ 59 ≤ i → X i = X0 i) ∧ X 42 7 = X0 42 7
theorem begin_play {X0 X : Mem} {A : Int → Int} {f t sd : Int} (hB : BD A) (h2 : X0 2 0 ∈ RIV) (h2u : X0 2 1 ∈ RUL) (hR : RV X0 (X0 2 0) A) (e3 : X0 2 3 = A 3) (e4 : X0 2 4 = A 4) (hP : THr (X0 18) (NS A)) (hX : PG X0 X) (sd0 : 0 ≤ sd) (sd1 : sd ≤ 9999) :
    ∃ (tr sd' : Int) (P : Int → Int) (Y : Mem), f_X0_begin 2 f t sd X = some (0, Y) ∧ (∀ q : Int, 0 ≤ q → q < 32 → P q = X0 18 q) ∧ GX X0 (X0 2 0) (X0 2 1) f t (SB A tr sd') P (X 58) Y ∧ GI A (SB A tr sd') P ∧ ∀ Z : Mem, Z 121 = A → TH (X0 18) A → Z 120 41 = sd → f_X12_drawTruth Z = some (0, ms (ms Z 120 41 sd') 120 42 tr) := by
  have hA := hB.2.1
  have hN := NS_r hA
  have b3 := hB.2.2.1
  have b4 := hB.2.2.2.1
  obtain ⟨g1, g2, g3⟩ := hX
  have x2 : X 2 = X0 2 := g2 2 (by decide)
  have x18 : X 18 = X0 18 := g2 18 (by decide)
  have hPr : THr (fun k => if 0 ≤ k ∧ k < 0 + 32 then X0 18 (0 + (k - 0)) else X 57 k) (NS A) := hP.row (by omega) fun q q0 q1 => by
    show (if 0 ≤ q ∧ q < 0 + 32 then X0 18 (0 + (q - 0)) else X 57 q) = _
    rw [if_pos ⟨q0, by omega⟩]
    congr 1
    omega
  have hPq : ∀ q : Int, 0 ≤ q → q < 32 → (fun k => if 0 ≤ k ∧ k < 0 + 32 then X0 18 (0 + (k - 0)) else X 57 k) q = X0 18 q := fun q q0 q1 => by
    show (if 0 ≤ q ∧ q < 0 + 32 then X0 18 (0 + (q - 0)) else X 57 q) = _
    rw [if_pos ⟨q0, by omega⟩]
    congr 1
    omega
  -- the memory before the draw
  obtain ⟨Y0, hY0⟩ : ∃ Y : Mem, Y = ms (ma (ma (ms (ms (ms (ms (ms (ms (ms X 55 5 (X0 2 0)) 55 6 (X0 2 1)) 55 7 f) 55 8 t) 55 9 (A 3)) 55 10 (A 4)) 55 11 sd) 57 (fun k => if 0 ≤ k ∧ k < 0 + 32 then X0 18 (0 + (k - 0)) else X 57 k)) 56 (fl (X 56) 0 7 0)) 56 5 (-1) := ⟨_, rfl⟩
  have hG0 : GX X0 (X0 2 0) (X0 2 1) f t (SB A 0 sd) (fun k => if 0 ≤ k ∧ k < 0 + 32 then X0 18 (0 + (k - 0)) else X 57 k) (X 58) Y0 := by
    rw [hY0]
    refine ⟨?_, ?_, fun k k0 k1 => ?_, ?_, ?_, ?_, fun i hi => ?_, ?_⟩
    · simp [ms_at, ma_z]
    · simp [ms_at, ma_z, SB]
    · rw [ms_at, ma_same]
      unfold SB fl
      by_cases k5 : k = 5
      · rw [if_pos ⟨rfl, k5⟩, if_neg (by omega), if_pos k5]
      · rw [if_neg (fun h => k5 h.2), if_pos ⟨k0, k1⟩]
        by_cases k4 : k = 4
        · rw [if_pos k4]
        · rw [if_neg k4, if_neg k5, if_neg (show ¬ k = 9 by omega), if_neg (show ¬ k = 10 by omega), if_neg (show ¬ k = 11 by omega), if_neg (show ¬ k = 12 by omega), if_neg (show ¬ k = 14 by omega)]
    · rw [ms_ne (by decide), ma_ne (by decide), ma_same]
    · simp [ms_ne, ma_z]
    · have : (ms (ma (ma (ms (ms (ms (ms (ms (ms (ms X 55 5 (X0 2 0)) 55 6 (X0 2 1)) 55 7 f) 55 8 t) 55 9 (A 3)) 55 10 (A 4)) 55 11 sd) 57 (fun k => if 0 ≤ k ∧ k < 0 + 32 then X0 18 (0 + (k - 0)) else X 57 k)) 56 (fl (X 56) 0 7 0)) 56 5 (-1)) 41 = X 41 := by simp [ms_ne, ma_z]
      rw [this]
      exact g1
    · rw [ms_ne (by omega), ma_ne (by omega), ma_ne (by omega), ms_ne (by omega), ms_ne (by omega), ms_ne (by omega), ms_ne (by omega), ms_ne (by omega), ms_ne (by omega), ms_ne (by omega)]
      exact g2 i hi
    · rw [ms_ne (by decide), ma_ne (by decide), ma_ne (by decide), ms_ne (by decide), ms_ne (by decide), ms_ne (by decide), ms_ne (by decide), ms_ne (by decide), ms_ne (by decide), ms_ne (by decide)]
      exact g3
  have hI0 : ∀ tr v : Int, 0 ≤ tr → tr < NS A → 0 ≤ v → v < 65536 → GI A (SB A tr v) (fun k => if 0 ≤ k ∧ k < 0 + 32 then X0 18 (0 + (k - 0)) else X 57 k) := fun tr v a b c d => by
    unfold GI
    simp [SB]
    exact ⟨by omega, ⟨a, b⟩, ⟨c, d⟩, by simpa using hPr⟩
  obtain ⟨d1, d2, d3⟩ := draw_c (X := Y0) (v := sd) (n := 1000) (by have := hG0.2.1.2.2; simpa [SB] using this) sd0 (by omega) (by decide) (by decide)
  have hG1 := hG0.seed (v := nxs sd)
  obtain ⟨tr, t1, t2, t3⟩ := truth_both (A := A) (P := fun k => if 0 ≤ k ∧ k < 0 + 32 then X0 18 (0 + (k - 0)) else X 57 k) (d := nxs sd / 8 % 1000) hA hPr d2 KF 0 0 (by decide) (by omega) (by decide) (by decide) (by rw [KF_eq]; omega)
  have hG2 := hG1.told (j := 4) (v := tr) (by decide) (by decide)
  have eS : ∀ j : Int, j ≠ 12 → j ≠ 13 → j ≠ 14 → SB A tr (nxs sd) j = up (up (SB A 0 sd) 11 (nxs sd)) 4 tr j := fun j _ _ _ => by
    rw [up_at, up_at]
    unfold SB
    by_cases j4 : j = 4
    · rw [if_pos j4, if_pos j4]
    · rw [if_neg j4, if_neg j4]
      by_cases j11 : j = 11
      · subst j11
        rfl
      · simp [j4, j11]
  refine ⟨tr, nxs sd, fun k => if 0 ≤ k ∧ k < 0 + 32 then X0 18 (0 + (k - 0)) else X 57 k, ms (ms Y0 55 11 (nxs sd)) 56 4 tr, ?_, hPq, hG2.s eS, hI0 tr (nxs sd) t1.1 t1.2 d3.1 d3.2, fun Z hZ hT hs => ?_⟩
  · have hRY := hG1.rv h2 hR
    have e2 : (ms Y0 55 11 (nxs sd)) (X0 2 0) 2 = A 2 := hRY.1.2.2.1
    have c57 : ∀ W : Mem, W 18 = X0 18 → W 57 = X 57 → f_X11_copyParts (2 + 16) 57 W = some (0, ma W 57 (fun k => if 0 ≤ k ∧ k < 0 + 32 then X0 18 (0 + (k - 0)) else X 57 k)) := fun W w1 w2 => by
      unfold f_X11_copyParts
      rw [cpk_ok (by decide) (by decide) (by decide) (by decide) (by decide), bd_eq, ← w1, ← w2]
      rfl
    unfold f_X0_begin
    rw [x2, cm_ok h2, bd_eq, ms_ne (by decide), x2, cm_ok h2u, bd_eq, bd_eq, bd_eq, ms_ne (by decide), ms_ne (by decide), ms_ne (by decide), ms_ne (by decide), x2, e3, bd_eq, ms_ne (by decide), ms_ne (by decide), ms_ne (by decide), ms_ne (by decide), ms_ne (by decide), x2, e4, bd_eq, bd_eq, c57 _ (by simp [ms_ne, x18]) (by simp [ms_ne]), cl_some, fillI (by decide) (by decide), cl_some, ax_ok (n := 7) (by decide) (by decide), bd_eq]
    have e56 : ma (ms (ms (ms (ms (ms (ms (ms X 55 5 (X0 2 0)) 55 6 (X0 2 1)) 55 7 f) 55 8 t) 55 9 (A 3)) 55 10 (A 4)) 55 11 sd) 57 (fun k => if 0 ≤ k ∧ k < 0 + 32 then X0 18 (0 + (k - 0)) else X 57 k) 56 = X 56 := by simp [ms_ne, ma_z]
    rw [e56, ← hY0]
    unfold f_X0_drawTruth f_X2_setCount
    rw [d1, cl_some, hG1.r, cm_ok h2, cl_some, e2, show ishl 1 (A 2) = NS A from rfl, bd_eq, t2 _ hG1.2.2.2.1, cl_some, ax_ok (n := 7) (by decide) (by decide), bd_eq]
  · have z1 := draw_z (Z := Z) (v := sd) (n := 1000) hs sd0 (by omega) (by decide) (by decide)
    unfold f_X12_drawTruth
    rw [z1, cl_some, bd_eq, t3 _ (by rw [ms_ne (by decide), ms_ne (by decide), hZ]) (fun s s0 s1 => by rw [ms_ne (by decide), ms_ne (by decide), hZ, hT.2.2.2 s s0 s1]; exact (hPq s s0 (by omega)).symm), ms_ms]
