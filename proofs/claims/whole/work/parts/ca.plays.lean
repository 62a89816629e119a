/-! a whole play, STEP by STEP -/
theorem ends_does {X0 X : Mem} {r u f t k : Int} {A s P T : Int → Int} (hB : BD A) (hr : r ∈ RIV) (hR : RV X0 r A) (hX : GX X0 r u f t s P T X) (k0 : 0 ≤ k) (k1 : k < A 14) (hb : 0 ≤ A (200 + 4 * k + 1) ∧ A (200 + 4 * k + 1) < 5) (Z0 Z : Mem) (cn : Int) (hZ : GZ Z0 cn A s P T Z) :
    (A (200 + 4 * k) = 7 → f_X12_does k f t Z = cl (f_X12_goes f t Z) fun _ X8 => some (-1, X8)) ∧ (A (200 + 4 * k) = 8 → f_X12_does k f t Z = some (-1, Z)) := by
  have hA := hB.2.1
  have b14 := hB.2.2.2.2.2.2.2.2.2.2.2.2.2.1
  obtain ⟨l, c1, c2, c3⟩ := cell_c (b := A (200 + 4 * k + 1)) hB hr hR hX hb.1 hb.2
  have hy := hZ.2.2.1
  have hi : inI (A (200 + 4 * k + 1)) := inI_s (by omega) (by omega)
  have hz : f_X12_does k f t Z = B_X12_does_59 k f t (200 + 4 * k) (A (200 + 4 * k)) (A (200 + 4 * k + 1)) (A (200 + 4 * k + 2)) l Z := by
    unfold f_X12_does
    rw [bd_eq, ax_ok (n := 2200) (by omega) (by omega), bd_eq, ax_ok (n := 2200) (by omega) (by omega), bd_eq, ax_ok (n := 2200) (by omega) (by omega), bd_eq, hy.1 (200 + 4 * k) (by omega) (by omega) (by omega), hy.1 (200 + 4 * k + 1) (by omega) (by omega) (by omega), hy.1 (200 + 4 * k + 2) (by omega) (by omega) (by omega), isBarm_eq hy.2.1 hi, cl_some, hy.1 2 (by decide) (by decide) (by decide)]
    by_cases g : A (200 + 4 * k + 1) < A 2
    · rw [if_pos ⟨hb.1, g⟩, c1_okk (by decide) (by decide), if_neg (by decide), cellOf_eq hy.2.1 hi ((c3 g).tx hB hy.1.v), cl_some]
    · rw [if_neg (by omega), c1_okk (by decide) (by decide), if_pos rfl, c2 (by omega)]
  refine ⟨fun h => ?_, fun h => ?_⟩
  · rw [hz, h, d59 (by decide) (by decide), d78 (by decide) (by decide), d98 (by decide) (by decide), d124 (by decide) (by decide), d184 (by decide), d221 (by decide) (by decide), B_X12_does_237, c2_ok (by decide) (by decide) (by decide) (by decide), if_neg (by decide)]
    rfl
  · rw [hz, h, d59 (by decide) (by decide), d78 (by decide) (by decide), d98 (by decide) (by decide), d124 (by decide) (by decide), d184 (by decide), d221 (by decide) (by decide), B_X12_does_237, c2_ok (by decide) (by decide) (by decide) (by decide), if_pos (by decide), B_X12_does_250, c2_ok (by decide) (by decide) (by decide) (by decide), if_neg (by decide), c2_ok (by decide) (by decide) (by decide) (by decide), if_neg (by decide)]
/-- what is told at the end -/
def ENDS (s : Int → Int) (v : Int) : Prop := (0 ≤ v ∧ v ≤ 3) ∧ (-1 ≤ s 0 ∧ s 0 ≤ 200000000) ∧ (0 ≤ s 1 ∧ s 1 ≤ 100) ∧ (0 ≤ s 2 ∧ s 2 ≤ 100) ∧ (0 ≤ s 3 ∧ s 3 ≤ 900) ∧ (0 ≤ s 4 ∧ s 4 < 32) ∧ (-1 ≤ s 5 ∧ s 5 < 32) ∧ (s 6 = 0 ∨ s 6 = 1) ∧ s 12 = v ∧ s 13 = s 1
theorem GI.step {A s P : Int → Int} (h : GI A s P) (h1 : s 1 < 100) : GI A (up s 1 (s 1 + 1)) P := by
  obtain ⟨i1, i2, i3, i4, i5, i6, i7, i8⟩ := h
  unfold GI
  simp only [up_at]
  refine ⟨?_, ?_, by simpa using i3, by simpa using i4, by simpa using i5, by simpa using i6, by simpa using i7, i8⟩
  · simp
    omega
  · simp
    omega
theorem play_loop {X0 : Mem} {r u f t lo : Int} {A : Int → Int} (hB : BD A) (h3 : A 3 ≤ 99) (hr : r ∈ RIV) (hR : RV X0 r A) (hu : u ∈ RUL) (hU : RU X0 u A) (f0 : 0 ≤ f) (f1 : f < A 0 * A 1) (t0 : 0 ≤ t) (t1 : t < A 0 * A 1) (hlo : -1900000000 ≤ lo ∧ lo ≤ 0) : ∀ (m : Nat) (k : Nat) (l c : Int) (s P T : Int → Int) (X : Mem), (100 - s 1).toNat < m → 0 ≤ l → l ≤ 60 → (l < A 14 → X0 (u + 1) l ≠ 0) → 0 ≤ c → c + PHI T l ≤ 33000 + 610 * s 1 → (1000001 - c).toNat < k → TB (lo - c) T → GX X0 r u f t s P T X → GI A s P → s 14 = s 9 → s 12 = 3 → s 13 = s 1 → (0 ≤ s 0 ∧ s 0 ≤ 12960 * s 1) → s 3 ≤ 9 * s 1 →
    ∃ (v : Int) (s' P' T' : Int → Int) (X' : Mem), L_X0_follow_4 k l c X = some (v, X') ∧ GX X0 r u f t s' P' T' X' ∧ ENDS s' v ∧ TB (lo - 95000) T' ∧ ∀ (Z0 Z : Mem) (cn : Int) (kz : Nat), cn ≤ 1000 → (101 - s 1).toNat < kz → GZ Z0 cn A s P T Z → ∃ Z' : Mem, L_X12_plays_46 kz f t l Z = B_X12_plays_124 (s' 6) Z' ∧ GZ Z0 cn A s' P' T' Z' := by
  have b14 := hB.2.2.2.2.2.2.2.2.2.2.2.2.2.1
  have hN := NS_r hB.2.1
  have ez : ∀ (s P T : Int → Int) (Z0 Z : Mem) (cn : Int), GZ Z0 cn A s P T Z → Z 121 14 = A 14 := fun s P T Z0 Z cn hZ => hZ.2.2.1.1 14 (by decide) (by decide) (by decide)
  intro m
  induction m with
  | zero => intro k l c s P T X h; omega
  | succ m ih =>
    intro k l c s P T X hm l0 l1 hcode c0 hc hk hT hX hI hd h12 h13 h0 h33
    have hI0 := hI
    obtain ⟨i1, i2, i3, i4, i5, i6, i7, i8⟩ := hI
    have hP := PHI_0 (T := T) l1
    have x1 : X (u + 1) = X0 (u + 1) := hX.ru hu 1 (by decide) (by decide)
    have xu : X u = X0 u := by
      have := hX.ru hu 0 (by decide) (by decide)
      rwa [Int.add_zero] at this
    obtain ⟨k, rfl⟩ : ∃ j : Nat, k = j + 1 := ⟨k - 1, by omega⟩
    have e56 : X 56 1 = s 1 := hX.2.2.1 1 (by decide) (by decide)
    have hE : ENDS s 3 := ⟨by decide, by omega, i1, by omega, by omega, by omega, by omega, Or.inl i6.2, h12, h13⟩
    have e44 : ∀ (Z0 Z : Mem) (cn : Int), GZ Z0 cn A s P T Z → Z 120 44 = s 1 := fun Z0 Z cn hZ => by rw [hZ.1.2.2.2.2.2.2.1, h13]
    by_cases g14 : A 14 ≤ l
    · refine ⟨3, s, P, T, X, ?_, hX, hE, hT.mono (by omega), fun Z0 Z cn kz hcn hkz hZ => ⟨Z, ?_, hZ⟩⟩
      · rw [L_X0_follow_4, c2_ok (by omega) (by omega) (by decide) (by decide), if_neg (by omega), c1_okk (by omega) (by omega), if_neg (by omega), hX.1.2.1, cm_ok hu, xu, hU.1, c2_ok (by omega) (by omega) (by omega) (by omega), if_neg (by omega)]
      · obtain ⟨kz, rfl⟩ : ∃ j : Nat, kz = j + 1 := ⟨kz - 1, by omega⟩
        rw [L_X12_plays_46, c2_ok (by omega) (by omega) (by decide) (by decide), if_neg (by omega), ax_ok (n := 2200) (by decide) (by decide), ez s P T Z0 Z cn hZ, c2_ok (by omega) (by omega) (by omega) (by omega), if_pos g14, B_X12_plays_100, c2_ok (by omega) (by omega) (by decide) (by decide), if_neg (by omega), ax_ok (n := 2200) (by decide) (by decide), ez s P T Z0 Z cn hZ, c2_ok (by omega) (by omega) (by omega) (by omega), if_pos g14, B_X12_plays_123, i6.2]
    · have hne := hcode (by omega)
      obtain ⟨q1, q2, -⟩ := hU.2 l l0 (by omega)
      have hcI : (-2147483648 ≤ X0 (u + 1) l ∧ X0 (u + 1) l ≤ 2147483647) ∧ (X0 (u + 1) l = 7 → A (200 + 4 * l) = 7) ∧ (X0 (u + 1) l = 8 → A (200 + 4 * l) = 8) := by
        clear hc hk hE h0 h33 i1 i2 i3 i4 i5 i6 i7 hP hm hlo
        unfold cdm at q1
        omega
      clear q1
      have eC : ∀ o : Option (Int × Mem), (if s 1 < 100 then (c2 (X0 (u + 1) l) 7 <| if ¬ X0 (u + 1) l = 7 then c2 (X0 (u + 1) l) 8 <| if ¬ X0 (u + 1) l = 8 then cl (f_X0_doStep l (ms X 56 1 (s 1 + 1))) fun r5 X6 => L_X0_follow_4 k r5 (c + 1) X6 else some (3, ms X 56 1 (s 1 + 1)) else cl (f_X0_goThrough (ms X 56 1 (s 1 + 1))) fun r7 X8 => some (r7, X8)) else some (3, ms X 56 6 1)) = o → L_X0_follow_4 (k + 1) l c X = o := fun o ho => by
        rw [L_X0_follow_4, c2_ok (by omega) (by omega) (by decide) (by decide), if_neg (by omega), c1_okk (by omega) (by omega), if_neg (by omega), hX.1.2.1, cm_ok hu, xu, hU.1, c2_ok (by omega) (by omega) (by omega) (by omega), if_pos (by omega), cm_ok hu, ax_ok (n := 60) l0 (by omega), bd_eq, x1, c1_okk hcI.1.1 hcI.1.2, if_pos hne, ax_ok (n := 7) (by decide) (by decide), e56, c2_ok (by omega) (by omega) (by decide) (by decide)]
        rw [← ho]
        by_cases g1 : s 1 < 100
        · rw [if_pos g1, if_pos g1, ax_ok (n := 7) (by decide) (by decide), ax_ok (n := 7) (by decide) (by decide), bd_eq]
          rfl
        · rw [if_neg g1, if_neg g1, B_X0_follow_61, ax_ok (n := 7) (by decide) (by decide), bd_eq]
      have eZ : ∀ (Z0 Z : Mem) (cn : Int) (kz : Nat), GZ Z0 cn A s P T Z → L_X12_plays_46 (kz + 1) f t l Z = (if 100 ≤ s 1 then B_X12_plays_124 1 Z else cl (f_X12_does l f t Z) fun r15 X16 => cl (f_X12_behindEnds r15 X16) fun r17 X18 => L_X12_plays_46 kz f t r17 (ms X18 120 44 (X18 120 44 + 1))) := fun Z0 Z cn kz hZ => by
        rw [L_X12_plays_46, c2_ok (by omega) (by omega) (by decide) (by decide), if_neg (by omega), ax_ok (n := 2200) (by decide) (by decide), ez s P T Z0 Z cn hZ, c2_ok (by omega) (by omega) (by omega) (by omega), if_neg g14, e44 Z0 Z cn hZ, c2_ok (by omega) (by omega) (by decide) (by decide)]
        by_cases g1 : 100 ≤ s 1
        · rw [if_pos g1, if_pos g1, B_X12_plays_100, c2_ok (by omega) (by omega) (by decide) (by decide), if_neg (by omega), ax_ok (n := 2200) (by decide) (by decide), ez s P T Z0 Z cn hZ, c2_ok (by omega) (by omega) (by omega) (by omega), if_neg g14]
        · rw [if_neg g1, if_neg g1]
          rfl
      -- the end by a STEP
      have eM : ∀ (Z : Mem) (w : Int) (kz : Nat), L_X12_plays_46 (kz + 1) f t (-1) Z = B_X12_plays_124 0 Z := fun Z w kz => by
        rw [L_X12_plays_46, c2_ok (by decide) (by decide) (by decide) (by decide), if_pos rfl, B_X12_plays_100, c2_ok (by decide) (by decide) (by decide) (by decide), if_pos rfl, B_X12_plays_123]
      have eB : ∀ Z : Mem, f_X12_behindEnds (-1) Z = some (-1, Z) := fun Z => by
        unfold f_X12_behindEnds
        rw [KF_eq, L_X12_behindEnds_2, c1_okk (by decide) (by decide), if_pos (by decide)]
      by_cases g1 : s 1 < 100
      · have hX1 := hX.told (j := 1) (v := s 1 + 1) (by decide) (by decide)
        have hI1 := hI0.step g1
        have hZ1 : ∀ (Z0 Z : Mem) (cn : Int), GZ Z0 cn A s P T Z → GZ Z0 cn A (up s 1 (s 1 + 1)) P T Z := fun Z0 Z cn hZ => hZ.s fun j j1 _ _ => up_ne j1
        have hd1 : up s 1 (s 1 + 1) 14 = up s 1 (s 1 + 1) 9 := by rw [up_ne (by decide), up_ne (by decide), hd]
        have hq : ∀ j : Int, j ≠ 1 → up s 1 (s 1 + 1) j = s j := fun j hj => up_ne hj
        have hq1 : up s 1 (s 1 + 1) 1 = s 1 + 1 := up_same
        by_cases g7 : X0 (u + 1) l = 7
        · obtain ⟨s', v, X', m1, m2, m3, m4, m5, m6, m7, m8⟩ := go_both hB h3 hr hR f0 f1 t0 t1 hX1 hI1 hd1
          rw [hq 0 (by decide)] at m6
          refine ⟨v, up s' 13 (s 1 + 1), P, T, X', eC _ ?_, m2.s (fun j _ j13 _ => up_ne j13), ?_, hT.mono (by omega), fun Z0 Z cn kz hcn hkz hZ => ?_⟩
          · rw [if_pos g1, c2_ok hcI.1.1 hcI.1.2 (by decide) (by decide), if_neg (by simpa using g7), m1, cl_some]
          · have hs : ∀ j : Int, j ≠ 0 → j ≠ 1 → j ≠ 5 → j ≠ 12 → j ≠ 13 → up s' 13 (s 1 + 1) j = s j := fun j a b c d e => by rw [up_ne e, m4 j a c d, hq j b]
            unfold ENDS
            rw [hs 2 (by decide) (by decide) (by decide) (by decide) (by decide), hs 3 (by decide) (by decide) (by decide) (by decide) (by decide), hs 4 (by decide) (by decide) (by decide) (by decide) (by decide), hs 6 (by decide) (by decide) (by decide) (by decide) (by decide), up_ne (show (0 : Int) ≠ 13 by decide), up_ne (show (1 : Int) ≠ 13 by decide), up_ne (show (5 : Int) ≠ 13 by decide), up_ne (show (12 : Int) ≠ 13 by decide), up_same, m4 1 (by decide) (by decide) (by decide), hq1]
            refine ⟨by omega, by omega, by omega, by omega, by omega, by omega, m7, Or.inl i6.2, m5, rfl⟩
          · obtain ⟨kz, rfl⟩ : ∃ j : Nat, kz = j + 1 + 1 := ⟨kz - 2, by omega⟩
            obtain ⟨Z', z1, z2⟩ := m8 Z0 Z cn hcn (hZ1 Z0 Z cn hZ)
            have z44 : Z' 120 44 = s 1 := by rw [z2.1.2.2.2.2.2.2.1, m4 13 (by decide) (by decide) (by decide), hq 13 (by decide), h13]
            have s6 : up s' 13 (s 1 + 1) 6 = 0 := by rw [up_ne (by decide), m4 6 (by decide) (by decide) (by decide), hq 6 (by decide), i6.2]
            refine ⟨ms Z' 120 44 (s 1 + 1), ?_, z2.one (by decide)⟩
            rw [eZ Z0 Z cn _ hZ, if_neg (by omega), (ends_does hB hr hR hX l0 (by omega) q2 Z0 Z cn hZ).1 (hcI.2.1 g7), z1, cl_some, cl_some, eB, cl_some, z44, eM _ 0, s6]
        · by_cases g8 : X0 (u + 1) l = 8
          · refine ⟨3, up (up s 1 (s 1 + 1)) 13 (s 1 + 1), P, T, _, eC _ ?_, hX1.s (fun j _ j13 _ => up_ne j13), ?_, hT.mono (by omega), fun Z0 Z cn kz hcn hkz hZ => ?_⟩
            · rw [if_pos g1, c2_ok hcI.1.1 hcI.1.2 (by decide) (by decide), if_pos g7, c2_ok hcI.1.1 hcI.1.2 (by decide) (by decide), if_neg (by simpa using g8)]
            · unfold ENDS
              simp only [up_at]
              simp
              omega
            · obtain ⟨kz, rfl⟩ : ∃ j : Nat, kz = j + 1 + 1 := ⟨kz - 2, by omega⟩
              have s6 : up (up s 1 (s 1 + 1)) 13 (s 1 + 1) 6 = 0 := by rw [up_ne (by decide), up_ne (by decide), i6.2]
              refine ⟨ms Z 120 44 (s 1 + 1), ?_, (hZ1 Z0 Z cn hZ).one (by decide)⟩
              rw [eZ Z0 Z cn _ hZ, if_neg (by omega), (ends_does hB hr hR hX l0 (by omega) q2 Z0 Z cn hZ).2 (hcI.2.2 g8), cl_some, eB, cl_some, e44 Z0 Z cn hZ, eM _ 0, s6]
          · obtain ⟨l', s', P', T', X', m1, m2, m3, ⟨m4, m5, m6⟩, m7, m8, m9, m10⟩ := step_both hB h3 hr hR hu hU f0 f1 t0 t1 hX1 hI1 hd1 l0 (by omega) (by rw [hq 2 (by decide), hq1]; omega) (by rw [hq 3 (by decide)]; omega) ⟨hne, g7, g8⟩
            rw [hq 0 (by decide)] at m5
            rw [hq 3 (by decide)] at m6
            have t1' : s' 1 = s 1 + 1 := by rw [m7 1 (by decide), hq1]
            have t12 : s' 12 = 3 := by rw [m7 12 (by decide), hq 12 (by decide), h12]
            have t13 : s' 13 = s 1 := by rw [m7 13 (by decide), hq 13 (by decide), h13]
            have hS0 := SUMT_0 (T := T)
            have hT' : TB (lo - c) T' ∧ SUMT T' ≤ SUMT T + 9 := by
              rcases m9 with rfl | ⟨n, hn, rfl⟩
              · exact ⟨hT, by omega⟩
              · refine ⟨hT.up (by omega) hn.2, ?_⟩
                rw [SUMT_up l0 (by omega)]
                omega
            have hph : PHI T' l' ≤ PHI T l + 609 := by
              unfold PHI
              omega
            obtain ⟨l2, c2', k2, T2, X2, n1, n2, ⟨n3, n4⟩, n5, n6, n7, n8, n9⟩ := ends_both (s := s') (P := P') hB hu hU (PHI T' l').toNat k l' (c + 1) (lo - c) T' X' (Nat.le_refl _) m8.1 m8.2 (by omega) (by omega) (by omega) (by omega) hT'.1 m2
            have hP2 := PHI_0 (T := T2) n7.2
            obtain ⟨v, s3, P3, T3, X3, y1, y2, y3, y4, y5⟩ := ih k2 l2 c2' (up s' 13 (s 1 + 1)) P' T2 X2 (by rw [up_ne (by decide), t1']; omega) n7.1 n7.2 n8 (by omega) (by rw [up_ne (by decide), t1']; omega) n5 (n6.mono (by omega)) (n2.s (fun j _ j13 _ => up_ne j13)) (m3.s (fun j _ _ j13 _ => up_ne j13)) (by rw [up_ne (by decide), up_ne (by decide), m4]) (by rw [up_ne (by decide), t12]) (by rw [up_same, up_ne (by decide), t1']) (by rw [up_ne (by decide), up_ne (by decide), t1']; omega) (by rw [up_ne (by decide), up_ne (by decide), t1']; omega)
            refine ⟨v, s3, P3, T3, X3, eC _ ?_, y2, y3, y4, fun Z0 Z cn kz hcn hkz hZ => ?_⟩
            · rw [if_pos g1, c2_ok hcI.1.1 hcI.1.2 (by decide) (by decide), if_pos g7, c2_ok hcI.1.1 hcI.1.2 (by decide) (by decide), if_pos g8, m1, cl_some, n1]
              exact y1
            · obtain ⟨kz, rfl⟩ : ∃ j : Nat, kz = j + 1 := ⟨kz - 1, by omega⟩
              obtain ⟨Z1, z1, z2⟩ := m10 Z0 Z cn hcn (hZ1 Z0 Z cn hZ)
              have hP1 := PHI_0 (T := T') m8.2
              obtain ⟨Z2, w1, w2⟩ := n9 Z0 Z1 cn KF (by rw [KF_eq]; omega) z2
              have w44 : Z2 120 44 = s 1 := by rw [w2.1.2.2.2.2.2.2.1, t13]
              obtain ⟨Z3, x1, x2⟩ := y5 Z0 _ cn kz hcn (by rw [up_ne (by decide), t1']; omega) (w2.one (k := 44) (j := 13) (v := s 1 + 1) (by decide))
              refine ⟨Z3, ?_, x2⟩
              rw [eZ Z0 Z cn _ hZ, if_neg (by omega), z1, cl_some]
              unfold f_X12_behindEnds
              rw [w1, cl_some, w44]
              exact x1
      · refine ⟨3, up s 6 1, P, T, _, eC _ (by rw [if_neg g1]), hX.told (by decide) (by decide), ?_, hT.mono (by omega), fun Z0 Z cn kz hcn hkz hZ => ⟨Z, ?_, hZ.s fun j _ j6 _ => up_ne j6⟩⟩
        · unfold ENDS
          simp only [up_at]
          simp
          omega
        · obtain ⟨kz, rfl⟩ : ∃ j : Nat, kz = j + 1 := ⟨kz - 1, by omega⟩
          rw [eZ Z0 Z cn _ hZ, if_pos (by omega), up_same]
