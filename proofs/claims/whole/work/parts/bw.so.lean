/-! what is so, and going through, in a play -/
theorem sur_full {cn : Int} {Z : Mem} {A B P : Int → Int} {f to : Int} (hA : BD A) (hZ : Z 121 = B) (hE : EQV A B) (hB : BD B) (hT : TH P B) (hC : CK cn Z) (hn : cn ≤ 1000) (f0 : 0 ≤ f) (f1 : f < A 0 * A 1) (t0 : 0 ≤ to) (t1 : to < A 0 * A 1) :
    ∃ (a : Int) (Y : Mem), f_X12_surestOf f to Z = some (a, Y) ∧ (∀ i k : Int, ¬ (i = 120 ∧ 31 ≤ k ∧ k ≤ 34) → i ≠ 132 → i ≠ 133 → i ≠ 134 → Y i k = Z i k) ∧ CK cn Y ∧ ((a = -1 ∧ ∀ b : Int, 0 ≤ b → b < NS A → ¬ WAYP A (ND B) f to b) ∨ SUR A (ND B) f to P a (pS P 0 a) (Y 134 a)) := by
  have hc := BD_cells hA
  have e01 : B 0 * B 1 = A 0 * A 1 := by rw [hE 0 (by decide), hE 1 (by decide)]
  have eN : NS B = NS A := NS.tx hE
  obtain ⟨a, Y, r1, r2, r3, r4, r5⟩ := surestOf_eq (P := P) (f := f) (to := to) (X := Z) (by rw [hZ]; exact hB) hC hn (by rw [hZ]; exact hT) f0 (by rw [hZ, e01]; exact f1) t0 (by rw [hZ, e01]; exact t1)
  rw [hZ, eN] at r5
  refine ⟨a, Y, r1, r2, r3, ?_⟩
  rcases r5 with ⟨r5, r6⟩ | r5
  · exact Or.inl ⟨r5, fun b b0 b1 hb => r6 b b0 b1 (hb.exr hA hE.r f0 (by omega))⟩
  · obtain ⟨s1, s2, s3, s4, s5⟩ := r5
    rw [eN] at s1
    refine Or.inr ⟨s1, s2.exr hB hE.r.symm f0 (by omega), rfl, s4.exr hB hE.r.symm f0 (by omega), fun b b0 b1 hb => ?_⟩
    rcases s5 b b0 (by rw [eN]; exact b1) (hb.exr hA hE.r f0 (by omega)) with h | ⟨h, h2⟩
    · exact Or.inl h
    · exact Or.inr ⟨h, fun m hm => h2 m (hm.exr hA hE.r f0 (by omega))⟩
theorem THr.pr {P : Int → Int} {N a b : Int} (h : THr P N) : 0 ≤ pS P a b ∧ pS P a b ≤ 1000000 := by
  have h1 := sg_r (q := pq a b) (w := P) 32 (fun s s0 s1 => (h.1 s s0 s1).1)
  have h2 := h.2.1
  unfold pS
  omega
theorem isso_both {X0 X : Mem} {r u f t b n p : Int} {A s P T : Int → Int} (hB : BD A) (h3 : A 3 ≤ 99) (hr : r ∈ RIV) (hR : RV X0 r A) (f0 : 0 ≤ f) (f1 : f < A 0 * A 1) (t0 : 0 ≤ t) (t1 : t < A 0 * A 1) (hX : GX X0 r u f t s P T X) (hI : GI A s P) (hd : s 14 = s 9) (hp : p = 9 ∨ p = 10 ∨ p = 11) (hb : p ≠ 11 → 0 ≤ b ∧ b < 5) (hn : 0 ≤ n ∧ n ≤ 16) :
    ∃ (v : Int) (X' : Mem), f_X0_isSo p b n X = some (v, X') ∧ (v = 0 ∨ v = 1) ∧ GX X0 r u f t s P T X' ∧ ∀ (Z0 Z : Mem) (cn b' : Int), cn ≤ 1000 → (p ≠ 11 → b' = b) → GZ Z0 cn A s P T Z → ∃ Z' : Mem, f_X12_holds p b' n f t Z = some (v, Z') ∧ GZ Z0 cn A s P T Z' := by
  have hA := hB.2.1
  have hN := NS_r hA
  have b3 := hB.2.2.1
  have b4 := hB.2.2.2.1
  have b6 := hB.2.2.2.2.2.1
  have hRX := hX.rv hr hR
  have e2 : X r 2 = A 2 := hRX.1.2.2.1
  have e57 : X 57 = P := hX.2.2.2.1
  have hI0 := hI
  obtain ⟨i1, i2, i3, i4, i5, i6, i7, i8⟩ := hI
  by_cases g : p = 11
  · subst g
    obtain ⟨v, Y1, Y2, k1, k2, k3, k4, k5, k6, k7, k8, k9, k10, k11⟩ := ground_eq (X := X) (d := s 9) (o := s 10) hr hRX hB (by omega) (by omega) (by omega) i4.2 f0 f1 t0 t1
    have hY2 : GX X0 r u f t s P T Y2 := hX.look (fun i hi => k3 i (by omega) (by omega) (by omega) (by omega)) k4
    have y57 : Y2 57 = P := hY2.2.2.2.1
    have y1 : Y1 55 = X 55 := by
      obtain ⟨Y', l1, l2, -⟩ := look_eq (d := s 9) (f := s 10) hr hRX hB (by omega) (by omega)
      have : Y' = Y1 := by
        rw [l1] at k1
        injection k1 with k1
        injection k1
      rw [← this, l2 55 (by decide) (by decide)]
    have ez : ∀ (Z0 Z : Mem) (cn : Int), cn ≤ 1000 → GZ Z0 cn A s P T Z → ∃ (a : Int) (Z1 : Mem), f_X12_surestOf f t Z = some (a, Z1) ∧ GZ Z0 cn A s P T Z1 ∧ f_X12_partsOf 0 a Z1 = some (pS P 0 a, Z1) ∧ ((a = -1 ∧ ∀ b : Int, 0 ≤ b → b < NS A → ¬ WAYP A (A 5 - s 10 - stg A (s 9)) f t b) ∨ SUR A (A 5 - s 10 - stg A (s 9)) f t P a (pS P 0 a) (Z1 134 a)) := fun Z0 Z cn hcn hZ => by
      have hy := hZ.2.2.1
      have hC := hZ.2.2.2.2.2.1
      obtain ⟨a, Z1, s1, s2, s3, s4⟩ := sur_full (Z := Z) (A := A) (B := Z 121) (P := P) (f := f) (to := t) hB rfl hy.1.v hy.2.1 hy.2.2 hC hcn f0 f1 t0 t1
      have eND : ND (Z 121) = A 5 - s 10 - stg A (s 9) := by
        unfold ND
        rw [hy.1 5 (by decide) (by decide) (by decide), hZ.2.1.1, hZ.2.1.2, hd, stg.tx hB hy.1.v (by omega)]
      rw [eND] at s4
      have hZ1 := hZ.look s2 s3
      refine ⟨a, Z1, s1, hZ1, ?_, s4⟩
      rw [partsOf_eq (P := P) hZ1.2.2.1.2.2 hZ1.2.2.1.2.1.2.1 (inI_s (by decide) (by decide))]
    have eC : ∀ o : Option (Int × Mem), (c1 v <| if v = 0 then some (0, Y2) else cl (f_X1_bestOf 57 Y2) fun r10 X11 => c1 n <| d2 (r10 * 16) (n * 1000000) <| if (r10 * 16) < (n * 1000000) then some (0, X11) else some (1, X11)) = o → f_X0_isSo 11 b n X = o := fun o ho => by
      unfold f_X0_isSo
      rw [c2_ok (by decide) (by decide) (by decide) (by decide), if_neg (by decide), hX.r, cm_ok hr, hX.2.1.1, hX.2.1.2.1, k1, cl_some, y1, hX.1.2.2.1, hX.1.2.2.2, k2, cl_some]
      exact ho
    by_cases hw : WAYP A (A 5 - s 10 - stg A (s 9)) f t (NS A - 1)
    · obtain ⟨m, S, b1, b2, -⟩ := bestOf_eq (p := 57) (w := P) hB k5 k8 (by rw [y57]; exact i8.wt) y57
      have hm : ∃ a : Int, (0 ≤ a ∧ a < NS A) ∧ WAYP A (A 5 - s 10 - stg A (s 9)) f t a ∧ m = pS P 0 a := by
        rcases b2.2.2 with ⟨-, b4⟩ | b4
        · exact absurd hw (b4 _ (by omega) (by omega))
        · exact b4
      obtain ⟨a0, a1, a2, a3⟩ := hm
      have hpm : 0 ≤ m ∧ m ≤ 1000000 := by rw [a3]; exact i8.pr
      have v1 := k9 hw
      have hY3 : GX X0 r u f t s P T (ma Y2 45 S) := hY2.look (fun i hi => ma_ne (by omega)) (by rw [ma_ne (by decide)])
      refine ⟨if m * 16 < n * 1000000 then 0 else 1, ma Y2 45 S, ?_, ?_, hY3, fun Z0 Z cn b' hcn hb' hZ => ?_⟩
      · refine eC _ ?_
        rw [v1, c1_okk (by decide) (by decide), if_neg (by decide), b1, cl_some, c1_okk (by omega) (by omega), d2_ok (by omega) (by omega) (by omega) (by omega)]
        split <;> rfl
      · split
        · exact Or.inl rfl
        · exact Or.inr rfl
      · obtain ⟨a, Z1, s1, s2, s3, s4⟩ := ez Z0 Z cn hcn hZ
        rcases s4 with ⟨-, s4⟩ | s4
        · exact absurd a2 (s4 a0 a1.1 a1.2)
        · have hpa : pS P 0 a = m := by
            have h1 := b2.2.1 a s4.1.1 s4.1.2 s4.2.1
            have h2 := s4.2.2.2.2 a0 a1.1 a1.2 a2
            omega
          have hr1 := s4.1
          refine ⟨Z1, ?_, s2⟩
          unfold f_X12_holds
          rw [c2_ok (by decide) (by decide) (by decide) (by decide), if_neg (by decide), s1, cl_some, c2_ok (by omega) (by omega) (by decide) (by decide), if_neg (by omega), s3, cl_some, hpa, c1_okk (by omega) (by omega), d2_ok (by omega) (by omega) (by omega) (by omega)]
          rw [show 16 * m = m * 16 by omega]
          split <;> rfl
    · have v0 := k10 hw
      refine ⟨0, Y2, ?_, Or.inl rfl, hY2, fun Z0 Z cn b' hcn hb' hZ => ?_⟩
      · refine eC _ ?_
        rw [v0, c1_okk (by decide) (by decide), if_pos rfl]
      · obtain ⟨a, Z1, s1, s2, s3, s4⟩ := ez Z0 Z cn hcn hZ
        rcases s4 with ⟨s4, -⟩ | s4
        · refine ⟨Z1, ?_, s2⟩
          unfold f_X12_holds
          rw [c2_ok (by decide) (by decide) (by decide) (by decide), if_neg (by decide), s1, cl_some, s4, c2_ok (by decide) (by decide) (by decide) (by decide), if_pos rfl]
        · exact absurd (s4.2.1.sub hB f0 f1 (fix_ex hB (by omega) (by omega) (by omega) i4.2 t0 t1 (by omega) (by omega)) (sub_all hA s4.1.1 s4.1.2)) hw
  · obtain ⟨b0, b1⟩ := hb g
    have hish : inI (ishl 1 b) := ⟨Int32.le_toInt _, Int32.toInt_le _⟩
    have hbm : ∀ (Z0 Z : Mem) (cn : Int), GZ Z0 cn A s P T Z → f_X12_isBar b Z = some (if 0 ≤ b ∧ b < A 2 then 1 else 0, Z) ∧ f_X12_partsOf (ishl 1 b) 0 Z = some (pS P (ishl 1 b) 0, Z) := fun Z0 Z cn hZ => by
      have hy := hZ.2.2.1
      refine ⟨?_, partsOf_eq hy.2.2 hy.2.1.2.1 hish⟩
      rw [isBarm_eq hy.2.1 (inI_s (by omega) (by omega)), hy.1 2 (by decide) (by decide) (by decide)]
    by_cases gb : b < A 2
    · have hpp := i8.pr (a := ishl 1 b) (b := 0)
      refine ⟨if p = 9 then (if pS P (ishl 1 b) 0 * 16 < n * 1000000 then 0 else 1) else (if n * 1000000 < pS P (ishl 1 b) 0 * 16 then 0 else 1), X, ?_, ?_, hX, fun Z0 Z cn b' hcn hb' hZ => ⟨Z, ?_, hZ⟩⟩
      · unfold f_X0_isSo
        rw [c2_ok (by omega) (by omega) (by decide) (by decide), if_pos g, c1_okk (by omega) (by omega), if_neg (by omega), hX.r, cm_ok hr, e2, c2_ok (by omega) (by omega) (by omega) (by omega), if_pos gb, partsWith_eq b0 b1, cl_some, e57, bd_eq, c2_ok (by omega) (by omega) (by decide) (by decide)]
        by_cases g9 : p = 9
        · rw [if_neg (by simpa using g9), if_pos g9, c1_okk (by omega) (by omega), d2_ok (by omega) (by omega) (by omega) (by omega)]
          split <;> rfl
        · rw [if_pos g9, if_neg g9, c1_okk (by omega) (by omega), d2_ok (by omega) (by omega) (by omega) (by omega)]
          split <;> rfl
      · split <;> split <;> simp
      · obtain ⟨m1, m2⟩ := hbm Z0 Z cn hZ
        unfold f_X12_holds
        rw [hb' g, c2_ok (by omega) (by omega) (by decide) (by decide), if_pos g, m1, if_pos ⟨b0, gb⟩, cl_some, c1_okk (by decide) (by decide), if_pos (by decide), m2, cl_some, bd_eq, c2_ok (by omega) (by omega) (by decide) (by decide), show 16 * pS P (ishl 1 b) 0 = pS P (ishl 1 b) 0 * 16 by omega]
        by_cases g9 : p = 9
        · rw [if_neg (by simpa using g9), if_pos g9, c1_okk (by omega) (by omega), d2_ok (by omega) (by omega) (by omega) (by omega)]
          split <;> rfl
        · rw [if_pos g9, if_neg g9, c1_okk (by omega) (by omega), d2_ok (by omega) (by omega) (by omega) (by omega)]
          split <;> rfl
    · refine ⟨0, X, ?_, Or.inl rfl, hX, fun Z0 Z cn b' hcn hb' hZ => ⟨Z, ?_, hZ⟩⟩
      · unfold f_X0_isSo
        rw [c2_ok (by omega) (by omega) (by decide) (by decide), if_pos g, c1_okk (by omega) (by omega), if_neg (by omega), hX.r, cm_ok hr, e2, c2_ok (by omega) (by omega) (by omega) (by omega), if_neg gb]
      · obtain ⟨m1, m2⟩ := hbm Z0 Z cn hZ
        unfold f_X12_holds
        rw [hb' g, c2_ok (by omega) (by omega) (by decide) (by decide), if_pos g, m1, if_neg (by omega), cl_some, c1_okk (by decide) (by decide), if_neg (by decide)]
