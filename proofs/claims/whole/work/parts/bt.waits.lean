/-! a whole day -/
theorem wait_both {X0 X : Mem} {r u f t : Int} {A s P T : Int → Int} (hB : BD A) (h3 : A 3 ≤ 99) (hr : r ∈ RIV) (hR : RV X0 r A) (hX : GX X0 r u f t s P T X) (hI : GI A s P) (hd : s 14 = s 9) (h9 : s 3 < 900) :
    ∃ (s' P' : Int → Int) (X' : Mem), f_X0_waitDay X = some (0, X') ∧ GX X0 r u f t s' P' T X' ∧ GI A s' P' ∧ (s' 14 = s' 9 ∧ s' 0 = s 0 + 1440 ∧ s' 3 = s 3 + 1) ∧ (∀ j : Int, j = 1 ∨ j = 12 ∨ j = 13 → s' j = s j) ∧ ∀ (Z0 Z : Mem) (cn : Int), GZ Z0 cn A s P T Z → ∃ Z' : Mem, f_X12_waits Z = some (0, Z') ∧ GZ Z0 cn A s' P' T Z' := by
  have hA := hB.2.1
  have b3 := hB.2.2.1
  have b4 := hB.2.2.2.1
  obtain ⟨i1, i2, i3, i4, i5, i6, i7, i8⟩ := hI
  have hX1 := hX.told (j := 0) (v := s 0 + 1440) (by decide) (by decide)
  have hX2 := hX1.told (j := 3) (v := s 3 + 1) (by decide) (by decide)
  have hX3 := hX2.day (v := s 9 + 1)
  have hI3 : GI A (up (up (up s 0 (s 0 + 1440)) 3 (s 3 + 1)) 9 (s 9 + 1)) P := by
    unfold GI
    simp only [up_at]
    refine ⟨?_, ?_, ?_, ?_, ?_, ?_, ?_, i8⟩
    · simpa using i1
    · simpa using i2
    · simp
      omega
    · simpa using i4
    · simpa using i5
    · simpa using i6
    · simpa using i7
  obtain ⟨s1, X1, k1, k2, k3, k4, k5⟩ := bars_both hB hr hR KF 0 _ _ (by decide) hA.1 (by rw [KF_eq]; omega) hX3 hI3
  obtain ⟨W, P', w1, w2, w3, w4⟩ := day_both (p := 57) (e := -1) (m := 0) hB hr (k2.rv hr hR) (by decide) k2.2.2.2.1 i8 k2.2.2.2.2.2.1 (by decide) (by constructor <;> decide)
  have q0 : s1 0 = s 0 + 1440 := by
    rw [k4 0 (by decide) (by decide), up_ne (by decide), up_ne (by decide), up_same]
  have q3 : s1 3 = s 3 + 1 := by
    rw [k4 3 (by decide) (by decide), up_ne (by decide), up_same]
  have q9 : s1 9 = s 9 + 1 := by
    rw [k4 9 (by decide) (by decide), up_same]
  have qq : ∀ j : Int, j ≠ 0 → j ≠ 3 → j ≠ 4 → j ≠ 9 → j ≠ 11 → s1 j = s j := fun j j0 j3 j4 j9 j11 => by
    rw [k4 j j4 j11, up_ne j9, up_ne j3, up_ne j0]
  refine ⟨up s1 14 (s 9 + 1), P', ma (ma X1 41 W) 57 P', ?_, ?_, ?_, ⟨?_, ?_, ?_⟩, fun j hj => ?_, fun Z0 Z cn hZ => ?_⟩
  · have e0 : X 56 0 = s 0 := hX.2.2.1 0 (by decide) (by decide)
    have e3 : ms X 56 0 (s 0 + 1440) 56 3 = s 3 := by rw [ms_at, if_neg (by decide)]; exact hX.2.2.1 3 (by decide) (by decide)
    have e9 : ms (ms X 56 0 (s 0 + 1440)) 56 3 (s 3 + 1) 55 9 = s 9 := by rw [ms_ne (by decide), ms_ne (by decide)]; exact hX.2.1.1
    unfold f_X0_waitDay
    rw [ax_ok (n := 7) (by decide) (by decide), ax_ok (n := 7) (by decide) (by decide), e0, bd_eq, ax_ok (n := 7) (by decide) (by decide), ax_ok (n := 7) (by decide) (by decide), e3, bd_eq, e9, bd_eq, k1, B_X0_waitDay_117, k2.r, cm_ok hr, w1, cl_some]
  · exact (k2.think w2).s fun j _ _ j14 => up_ne j14
  · obtain ⟨g1, g2, g3, g4, g5, g6, g7, g8⟩ := k3
    exact GI.s (s := s1) ⟨g1, g2, g3, g4, g5, g6, g7, w3⟩ fun j _ _ _ j14 => up_ne j14
  · rw [up_same, up_ne (by decide), q9]
  · rw [up_ne (by decide), q0]
  · rw [up_ne (by decide), q3]
  · rw [up_ne (by omega)]
    exact qq j (by omega) (by omega) (by omega) (by omega) (by omega)
  · have hZ1 := hZ.one (k := 43) (j := 0) (v := s 0 + 1440) (by decide)
    have hZ2 := hZ1.one (k := 46) (j := 3) (v := s 3 + 1) (by decide)
    have hZ3 : GZ Z0 cn A (up (up (up s 0 (s 0 + 1440)) 3 (s 3 + 1)) 9 (s 9 + 1)) P T _ := hZ2.s fun j _ _ j9 => up_ne j9
    obtain ⟨Z1, z1, z2⟩ := k5 Z0 _ cn hZ3
    obtain ⟨y1, y2, ⟨y3, y4, y5⟩, y6, y7, y8, y9⟩ := z2
    obtain ⟨U, V, B', v1, v2, v3, v4, v5⟩ := w4 Z1 (Z1 121) rfl y3.v y4 y5 y7
    have e14 : s1 14 = s 9 := by rw [qq 14 (by decide) (by decide) (by decide) (by decide) (by decide), hd]
    refine ⟨ma (ma (ma Z1 131 U) 130 V) 121 B', ?_, ?_⟩
    · have e0 : Z 120 43 = s 0 := hZ.1.2.2.1
      have e3 : ms Z 120 43 (s 0 + 1440) 120 46 = s 3 := by rw [ms_at, if_neg (by decide)]; exact hZ.1.2.2.2.2.1
      unfold f_X12_waits
      rw [e0, bd_eq, e3, bd_eq, z1, B_X12_waits_93, v1, cl_some]
    · refine GZ.slot (s := s1) (P := P) (Z := Z1) ⟨y1, y2, ⟨y3, y4, y5⟩, y6, y7, y8, y9⟩ (fun i i1 i2 i3 => by rw [ma_ne i1, ma_ne i2, ma_ne i3]) (by rw [ma_ne (by decide), ma_same]; exact v5) (by rw [ma_same]; exact fun k k3 _ kk => v3 k k3 kk) ?_ ?_ (by rw [ma_same]; exact v2) ?_ ?_ (fun j j14 _ => up_ne j14)
      · rw [up_same]
        omega
      · rw [up_ne (by decide), qq 10 (by decide) (by decide) (by decide) (by decide) (by decide)]
        omega
      · rw [ma_same, up_same, v4, y2.1, e14]
      · rw [ma_same, up_ne (by decide), v3 4 (by decide) (by decide)]
        exact y2.2
