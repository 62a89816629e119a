/-! a STEP of a rule on both sides -/
section
variable {k f t q c b n l : Int} {Z : Mem}
theorem d250 (hc : 0 ≤ c ∧ c ≤ 51) (h7 : c ≠ 7) (h8 : c ≠ 8) : B_X12_does_250 k c Z = some (k + 1, Z) := by
  unfold B_X12_does_250
  rw [c2_ok (by omega) (by omega) (by decide) (by decide), if_neg h7, c2_ok (by omega) (by omega) (by decide) (by decide), if_pos h8]
theorem d237 (hc : 0 ≤ c ∧ c ≤ 51) (h7 : c ≠ 7) (h8 : c ≠ 8) : B_X12_does_237 k f t c Z = some (k + 1, Z) := by
  unfold B_X12_does_237
  rw [c2_ok (by omega) (by omega) (by decide) (by decide), if_pos h7, d250 hc h7 h8]
theorem d221 (hc : 0 ≤ c ∧ c ≤ 51) (h5 : c ≠ 5) : B_X12_does_221 k f t c n Z = B_X12_does_237 k f t c Z := by
  unfold B_X12_does_221
  rw [c2_ok (by omega) (by omega) (by decide) (by decide), if_pos h5]
theorem d184 (hc : 0 ≤ c ∧ c < 40) : B_X12_does_184 k f t q c b n Z = B_X12_does_221 k f t c n Z := by
  unfold B_X12_does_184
  rw [c2_ok (by omega) (by omega) (by decide) (by decide), if_pos hc.2]
theorem d124 (hc : 0 ≤ c ∧ c ≤ 51) (h3 : c ≠ 3) : B_X12_does_124 k f t q c b n Z = B_X12_does_184 k f t q c b n Z := by
  unfold B_X12_does_124
  rw [c2_ok (by omega) (by omega) (by decide) (by decide), if_pos h3]
theorem d98 (hc : 0 ≤ c ∧ c ≤ 51) (h2 : c ≠ 2) : B_X12_does_98 k f t q c b n Z = B_X12_does_124 k f t q c b n Z := by
  unfold B_X12_does_98
  rw [c2_ok (by omega) (by omega) (by decide) (by decide), if_pos h2]
theorem d78 (hc : 0 ≤ c ∧ c ≤ 51) (h1 : c ≠ 1) : B_X12_does_78 k f t q c b n l Z = B_X12_does_98 k f t q c b n Z := by
  unfold B_X12_does_78
  rw [c2_ok (by omega) (by omega) (by decide) (by decide), if_pos h1]
theorem d59 (hc : 0 ≤ c ∧ c ≤ 51) (h0 : c ≠ 0) : B_X12_does_59 k f t q c b n l Z = B_X12_does_78 k f t q c b n l Z := by
  unfold B_X12_does_59
  rw [c1_okk (by omega) (by omega), if_pos h0]
theorem d78_0 : B_X12_does_78 k f t q 0 b n l Z = some (k + 1, Z) := by
  rw [d78 (by decide) (by decide), d98 (by decide) (by decide), d124 (by decide) (by decide), d184 (by decide), d221 (by decide) (by decide), d237 (by decide) (by decide) (by decide)]
theorem d98_1 : B_X12_does_98 k f t q 1 b n Z = some (k + 1, Z) := by
  rw [d98 (by decide) (by decide), d124 (by decide) (by decide), d184 (by decide), d221 (by decide) (by decide), d237 (by decide) (by decide) (by decide)]
theorem d124_2 : B_X12_does_124 k f t q 2 b n Z = some (k + 1, Z) := by
  rw [d124 (by decide) (by decide), d184 (by decide), d221 (by decide) (by decide), d237 (by decide) (by decide) (by decide)]
theorem d184_3 : B_X12_does_184 k f t q 3 b n Z = some (k + 1, Z) := by
  rw [d184 (by decide), d221 (by decide) (by decide), d237 (by decide) (by decide) (by decide)]
end
/-- a rule's line on the class's side -/
theorem GX.ru {X0 X : Mem} {r u f t : Int} {s P T : Int → Int} (h : GX X0 r u f t s P T X) (hu : u ∈ RUL) : ∀ j : Int, 0 ≤ j → j ≤ 4 → X (u + j) = X0 (u + j) := by
  intro j j0 j1
  have hc : u = 13 ∨ u = 30 ∨ u = 80 ∨ u = 97 ∨ u = 114 := by simpa [RUL] using hu
  exact h.2.2.2.2.2.2.1 (u + j) (by omega)
def STP (X0 : Mem) (r u f t : Int) (A s P T : Int → Int) (k : Int) (X : Mem) : Prop := ∃ (l : Int) (s' P' T' : Int → Int) (X' : Mem), f_X0_doStep k X = some (l, X') ∧ GX X0 r u f t s' P' T' X' ∧ GI A s' P' ∧ (s' 14 = s' 9 ∧ (s 0 ≤ s' 0 ∧ s' 0 ≤ s 0 + 12960) ∧ s' 3 ≤ s 3 + 9) ∧ (∀ j : Int, j = 1 ∨ j = 12 ∨ j = 13 → s' j = s j) ∧ (0 ≤ l ∧ l ≤ 60) ∧ (T' = T ∨ ∃ n : Int, (1 ≤ n ∧ n ≤ 9) ∧ T' = up T k n) ∧ ∀ (Z0 Z : Mem) (cn : Int), cn ≤ 1000 → GZ Z0 cn A s P T Z → ∃ Z' : Mem, f_X12_does k f t Z = some (l, Z') ∧ GZ Z0 cn A s' P' T' Z'
theorem step_both {X0 X : Mem} {r u f t k : Int} {A s P T : Int → Int} (hB : BD A) (h3 : A 3 ≤ 99) (hr : r ∈ RIV) (hR : RV X0 r A) (hu : u ∈ RUL) (hU : RU X0 u A) (f0 : 0 ≤ f) (f1 : f < A 0 * A 1) (t0 : 0 ≤ t) (t1 : t < A 0 * A 1) (hX : GX X0 r u f t s P T X) (hI : GI A s P) (hd : s 14 = s 9) (k0 : 0 ≤ k) (k1 : k < A 14) (h2 : s 2 < s 1) (h9 : s 3 ≤ 891) (hdo : X0 (u + 1) k ≠ 0 ∧ X0 (u + 1) k ≠ 7 ∧ X0 (u + 1) k ≠ 8) : STP X0 r u f t A s P T k X := by
  have hA := hB.2.1
  have b14 := hB.2.2.2.2.2.2.2.2.2.2.2.2.2.1
  have b6 := hB.2.2.2.2.2.1
  have hL := hU.2 k k0 k1
  have e1 : X (u + 1) = X0 (u + 1) := hX.ru hu 1 (by decide) (by decide)
  have e2 : X (u + 2) = X0 (u + 2) := hX.ru hu 2 (by decide) (by decide)
  have e3 : X (u + 3) = X0 (u + 3) := hX.ru hu 3 (by decide) (by decide)
  have e4 : ∀ (s P T : Int → Int) (X : Mem), GX X0 r u f t s P T X → X (u + 4) = X0 (u + 4) := fun s P T X hX => hX.ru hu 4 (by decide) (by decide)
  obtain ⟨l1, l2, l3, l4, l5, l6, l7, l8, -⟩ := hL
  have l5 := l5 hdo.1
  obtain ⟨l, w1, w2, w3⟩ := cell_c (b := A (200 + 4 * k + 1)) hB hr hR hX l2.1 l2.2
  -- the reference up to the STEP itself
  have hz : ∀ (Z0 Z : Mem) (cn : Int), GZ Z0 cn A s P T Z → f_X12_does k f t Z = B_X12_does_59 k f t (200 + 4 * k) (A (200 + 4 * k)) (A (200 + 4 * k + 1)) (A (200 + 4 * k + 2)) l Z := fun Z0 Z cn hZ => by
    have hy := hZ.2.2.1
    have hi : inI (A (200 + 4 * k + 1)) := inI_s (by omega) (by omega)
    unfold f_X12_does
    rw [bd_eq, ax_ok (n := 2200) (by omega) (by omega), bd_eq, ax_ok (n := 2200) (by omega) (by omega), bd_eq, ax_ok (n := 2200) (by omega) (by omega), bd_eq, hy.1 (200 + 4 * k) (by omega) (by omega) (by omega), hy.1 (200 + 4 * k + 1) (by omega) (by omega) (by omega), hy.1 (200 + 4 * k + 2) (by omega) (by omega) (by omega), isBarm_eq hy.2.1 hi, cl_some, hy.1 2 (by decide) (by decide) (by decide)]
    by_cases g : A (200 + 4 * k + 1) < A 2
    · rw [if_pos ⟨l2.1, g⟩, c1_okk (by decide) (by decide), if_neg (by decide), cellOf_eq hy.2.1 hi ((w3 g).tx hB hy.1.v), cl_some]
    · rw [if_neg (by omega), c1_okk (by decide) (by decide), if_pos rfl, w2 (by omega)]
  have hl : -1 ≤ l ∧ l < 60 := by
    by_cases g : A (200 + 4 * k + 1) < A 2
    · exact LE_r hB (w3 g)
    · rw [w2 (by omega)]
      decide
  have hcI : -2147483648 ≤ X0 (u + 1) k ∧ X0 (u + 1) k ≤ 2147483647 := by
    unfold cdm at l1
    omega
  -- the class up to the STEP itself
  have hc : f_X0_doStep k X = (if X0 (u + 1) k = 1 then cl (f_X0_takeSounding (X0 (u + 2) k) X) fun _ X23 => B_X0_doStep_170 k X23 else if X0 (u + 1) k = 2 then cl (f_X0_takeColour (X0 (u + 2) k) X) fun _ X21 => B_X0_doStep_170 k X21 else if X0 (u + 1) k = 3 then L_X0_doStep_87 KF k (A (200 + 4 * k + 2)) 0 X else if X0 (u + 1) k = 4 then cl (f_X0_putOff (min (A (200 + 4 * k + 2)) (A 6)) X) fun _ X17 => B_X0_doStep_170 k X17 else if X0 (u + 1) k = 6 then B_X0_doStep_170 k (ms X 58 k (A (200 + 4 * k + 2))) else cl (f_X0_isSo (X0 (u + 1) k) (X0 (u + 2) k) (A (200 + 4 * k + 2)) X) fun r7 X8 => c1 r7 <| if r7 = 0 then cm RUL (X8 55 6) <| ax 60 k <| some ((X8 ((X8 55 6) + 4) k) + 1, X8) else some (k + 1, X8)) := by
    have e6 : X r 4 = A 6 := (hX.rv hr hR).1.2.2.2.2.1
    unfold f_X0_doStep
    rw [hX.1.2.1, cm_ok hu, ax_ok (n := 60) k0 (by omega), bd_eq, cm_ok hu, ax_ok (n := 60) k0 (by omega), bd_eq, cm_ok hu, ax_ok (n := 60) k0 (by omega), e1, e2, e3, l5, c1_okk hcI.1 hcI.2, hX.r, cm_ok hr, e6, c2_ok (by omega) (by omega) (by omega) (by omega), ax_ok (n := 60) k0 (by omega), bd_eq, cm_ok hu, ax_ok (n := 60) k0 (by omega)]
    have n5 : ¬ X0 (u + 1) k = 5 := by
      unfold cdm at l1
      omega
    rw [if_neg n5]
  have hcode := l1
  unfold cdm at hcode
  -- by the STEP
  by_cases g1 : X0 (u + 1) k = 1
  · have eA : A (200 + 4 * k) = 0 := by omega
    rw [if_pos g1, l3 (by omega)] at hc
    rw [eA] at hz
    by_cases gl : l = -1
    · refine ⟨k + 1, s, P, T, X, ?_, hX, hI, ⟨hd, ⟨by omega, by omega⟩, by omega⟩, fun _ _ => rfl, by omega, Or.inl rfl, fun Z0 Z cn hcn hZ => ⟨Z, ?_, hZ⟩⟩
      · rw [hc]
        unfold f_X0_takeSounding
        rw [w1, gl, cl_some, c2_ok (by decide) (by decide) (by decide) (by decide), if_neg (by decide), cl_some, B_X0_doStep_170]
      · rw [hz Z0 Z cn hZ, B_X12_does_59, c1_okk (by decide) (by decide), if_neg (by decide), gl, c2_ok (by decide) (by decide) (by decide) (by decide), if_pos rfl, d78_0]
    · obtain ⟨s', P', X', m1, m2, m3, ⟨m4, m5⟩, m6, m7⟩ := sound_both hB h3 hr hR hX hI hd h2 w1 (by omega) hl.2
      refine ⟨k + 1, s', P', T, X', by rw [hc, m1, cl_some, B_X0_doStep_170], m2, m3, ⟨m4, ⟨by omega, by omega⟩, by rw [m6 3 (by decide)]; omega⟩, fun j hj => m6 j (by omega), by omega, Or.inl rfl, fun Z0 Z cn hcn hZ => ?_⟩
      obtain ⟨Z', y1, y2⟩ := m7 Z0 Z cn hZ
      exact ⟨Z', by rw [hz Z0 Z cn hZ, B_X12_does_59, c1_okk (by decide) (by decide), if_neg (by decide), c2_ok (by omega) (by omega) (by decide) (by decide), if_neg gl, y1, cl_some, d78_0], y2⟩
  · rw [if_neg g1] at hc
    by_cases g2 : X0 (u + 1) k = 2
    · have eA : A (200 + 4 * k) = 1 := by omega
      rw [if_pos g2, l3 (by omega)] at hc
      rw [eA] at hz
      by_cases gl : l = -1
      · refine ⟨k + 1, s, P, T, X, ?_, hX, hI, ⟨hd, ⟨by omega, by omega⟩, by omega⟩, fun _ _ => rfl, by omega, Or.inl rfl, fun Z0 Z cn hcn hZ => ⟨Z, ?_, hZ⟩⟩
        · rw [hc]
          unfold f_X0_takeColour
          rw [w1, gl, cl_some, c2_ok (by decide) (by decide) (by decide) (by decide), if_neg (by decide), cl_some, B_X0_doStep_170]
        · rw [hz Z0 Z cn hZ, d59 (by decide) (by decide), B_X12_does_78, c2_ok (by decide) (by decide) (by decide) (by decide), if_neg (by decide), gl, c2_ok (by decide) (by decide) (by decide) (by decide), if_pos rfl, d98_1]
      · obtain ⟨s', P', X', m1, m2, m3, ⟨m4, m5⟩, m6, m7⟩ := colour_both hB h3 hr hR hX hI hd w1 (by omega) hl.2
        refine ⟨k + 1, s', P', T, X', by rw [hc, m1, cl_some, B_X0_doStep_170], m2, m3, ⟨m4, ⟨by omega, by omega⟩, by rw [m6 3 (by decide)]; omega⟩, fun j hj => m6 j (by omega), by omega, Or.inl rfl, fun Z0 Z cn hcn hZ => ?_⟩
        obtain ⟨Z', y1, y2⟩ := m7 Z0 Z cn hZ
        exact ⟨Z', by rw [hz Z0 Z cn hZ, d59 (by decide) (by decide), B_X12_does_78, c2_ok (by decide) (by decide) (by decide) (by decide), if_neg (by decide), c2_ok (by omega) (by omega) (by decide) (by decide), if_neg gl, y1, cl_some, d98_1], y2⟩
    · rw [if_neg g2] at hc
      by_cases g3 : X0 (u + 1) k = 3
      · have eA : A (200 + 4 * k) = 2 := by omega
        have n9 := l6 (by omega)
        rw [if_pos g3] at hc
        rw [eA] at hz
        obtain ⟨s', P', X', m1, m2, m3, ⟨m4, m5, m6⟩, m7, m8⟩ := waits_both (p := k) hB h3 hr hR l4 KF 0 s P X (by decide) l4.1 (by rw [KF_eq]; omega) hX hI hd (by omega)
        refine ⟨k + 1, s', P', T, X', by rw [hc, m1], m2, m3, ⟨m4, ⟨by omega, by omega⟩, by omega⟩, fun j hj => m7 j (by omega), by omega, Or.inl rfl, fun Z0 Z cn hcn hZ => ?_⟩
        obtain ⟨Z', y1, y2⟩ := m8 Z0 Z cn k f t (200 + 4 * k) 2 (A (200 + 4 * k + 1)) hZ
        exact ⟨Z', by rw [hz Z0 Z cn hZ, d59 (by decide) (by decide), d78 (by decide) (by decide), B_X12_does_98, c2_ok (by decide) (by decide) (by decide) (by decide), if_neg (by decide), y1, d124_2], y2⟩
      · rw [if_neg g3] at hc
        by_cases g4 : X0 (u + 1) k = 4
        · have eA : A (200 + 4 * k) = 3 := by omega
          rw [if_pos g4] at hc
          rw [eA] at hz
          obtain ⟨s', X', m1, m2, m3, ⟨m4, m5, m6⟩, m7, m8⟩ := off_both hB h3 hX hI hd l4
          refine ⟨k + 1, s', P, T, X', by rw [hc, m1, cl_some, B_X0_doStep_170], m2, m3, ⟨m4, ⟨by omega, by omega⟩, by rw [m7 3 (by decide)]; omega⟩, fun j hj => m7 j (by omega), by omega, Or.inl rfl, fun Z0 Z cn hcn hZ => ?_⟩
          obtain ⟨Z', y1, y2⟩ := m8 Z0 Z cn k f t (200 + 4 * k) (A (200 + 4 * k + 1)) hZ
          exact ⟨Z', by rw [hz Z0 Z cn hZ, d59 (by decide) (by decide), d78 (by decide) (by decide), d98 (by decide) (by decide), y1, d184_3], y2⟩
        · rw [if_neg g4] at hc
          by_cases g6 : X0 (u + 1) k = 6
          · have eA : A (200 + 4 * k) = 5 := by omega
            have n9 := l6 (by omega)
            have n1 := l7 g6
            rw [if_pos g6] at hc
            rw [eA] at hz
            refine ⟨k + 1, s, P, up T k (A (200 + 4 * k + 2)), ms X 58 k (A (200 + 4 * k + 2)), by rw [hc, B_X0_doStep_170], hX.turn, hI, ⟨hd, ⟨by omega, by omega⟩, by omega⟩, fun _ _ => rfl, by omega, Or.inr ⟨_, ⟨n1, n9⟩, rfl⟩, fun Z0 Z cn hcn hZ => ⟨_, ?_, hZ.turn⟩⟩
            rw [hz Z0 Z cn hZ, d59 (by decide) (by decide), d78 (by decide) (by decide), d98 (by decide) (by decide), d124 (by decide) (by decide), d184 (by decide), B_X12_does_221, c2_ok (by decide) (by decide) (by decide) (by decide), if_neg (by decide), ax_ok (n := 64) k0 (by omega), bd_eq, d237 (by decide) (by decide) (by decide), show max 0 (A (200 + 4 * k + 2) - 1) = A (200 + 4 * k + 2) - 1 by omega]
          · rw [if_neg g6] at hc
            have hpc : (X0 (u + 1) k = 9 ∨ X0 (u + 1) k = 10 ∨ X0 (u + 1) k = 11) ∧ A (200 + 4 * k) = X0 (u + 1) k + 40 := by omega
            have l8 := l8 (by omega)
            have hb : X0 (u + 1) k ≠ 11 → X0 (u + 2) k = A (200 + 4 * k + 1) := fun h => l3 (by omega)
            obtain ⟨v, X', m1, m2, m3, m4⟩ := isso_both (b := X0 (u + 2) k) (n := A (200 + 4 * k + 2)) (p := X0 (u + 1) k) hB h3 hr hR f0 f1 t0 t1 hX hI hd hpc.1 (fun h => by rw [hb h]; exact l2) l4
            have e4 := e4 _ _ _ _ m3
            rw [m1, cl_some, c1_okk (by omega) (by omega)] at hc
            refine ⟨if v = 0 then A (200 + 4 * k + 3) + 1 else k + 1, s, P, T, X', ?_, m3, hI, ⟨hd, ⟨by omega, by omega⟩, by omega⟩, fun _ _ => rfl, ?_, Or.inl rfl, fun Z0 Z cn hcn hZ => ?_⟩
            · rw [hc]
              by_cases gv : v = 0
              · rw [if_pos gv, if_pos gv, m3.1.2.1, cm_ok hu, ax_ok (n := 60) k0 (by omega), e4, l8.1]
              · rw [if_neg gv, if_neg gv]
            · split <;> omega
            · obtain ⟨Z', y1, y2⟩ := m4 Z0 Z cn (A (200 + 4 * k + 1)) hcn (fun h => (hb h).symm) hZ
              refine ⟨Z', ?_, y2⟩
              rw [hz Z0 Z cn hZ, hpc.2, d59 (by omega) (by omega), d78 (by omega) (by omega), d98 (by omega) (by omega), d124 (by omega) (by omega), B_X12_does_184, c2_ok (by omega) (by omega) (by decide) (by decide), if_neg (by omega), show X0 (u + 1) k + 40 - 40 = X0 (u + 1) k by omega, y1, cl_some, c1_okk (by omega) (by omega)]
              by_cases gv : v = 0
              · rw [if_neg (by simpa using gv), if_pos gv, ax_ok (n := 2200) (by omega) (by omega), y2.2.2.1.1 (200 + 4 * k + 3) (by omega) (by omega) (by omega)]
              · rw [if_pos gv, if_neg gv, d221 (by omega) (by omega), d237 (by omega) (by omega) (by omega)]
