/-! rules: end, and the whole text -/
def PME (m0 : Int) (N0 : Int → Int) (S : Rul) (Z : Mem) : Prop := PMV m0 N0 S (S.A 14 + 1) S.steps Z ∧ Z 121 (1960 + 4 * S.A 14) = 6 ∧ Z 121 (1960 + 4 * S.A 14 + 1) = 0 ∧ Z 121 (1960 + 4 * S.A 14 + 2) = 0
theorem PME.st {m0 : Int} {N0 : Int → Int} {S : Rul} : StM (PME m0 N0 S) := fun Z R hR h =>
  ⟨PMV.st Z R hR h.1, by rw [ma_ne (by decide)]; exact h.2.1, by rw [ma_ne (by decide)]; exact h.2.2.1, by rw [ma_ne (by decide)]; exact h.2.2.2⟩
/-- the class closes -/
theorem close_X {u r m0 : Int} {N0 : Int → Int} {S : Rul} {X : Mem} (hu : u ∈ RUL) (hr : r ∈ RIV) (hur : u + 4 < r ∨ r + 9 < u) (hs : GdU m0 S) (h1 : 1 ≤ S.deep) (hJ : PCL u r m0 N0 S 0 (-1) 0 X) :
    PCU u r m0 N0 (clsL S) (ms (ms (ms X 38 4 (S.deep - 1)) (u + 4) (S.A 14) (S.O (S.deep - 1))) (u + 4) (S.O (S.deep - 1)) (S.A 14)) := by
  have g0 : 0 ≤ S.A 14 := hs.1.2.2.1.1
  have hop := hs.2.1 (S.deep - 1) (by omega) (by omega)
  have hdist := hs.2.2.1
  have s0 := (sepU hu) 0 (by decide) (by decide)
  rw [Int.add_zero] at s0
  have s1 := (sepU hu) 1 (by decide) (by decide)
  have s4 := (sepU hu) 4 (by decide) (by decide)
  have r0 := (sepR hr) 0 (by decide) (by decide)
  rw [Int.add_zero] at r0
  have r4 := (sepR hr) 4 (by decide) (by decide)
  obtain ⟨⟨p1, p2, ⟨p3, p4⟩, p5, p6⟩, l1, -, -⟩ := hJ
  obtain ⟨n1, n2, n3, n4⟩ := clsL_n (S := S) g0
  generalize hV : ms (ms (ms X 38 4 (S.deep - 1)) (u + 4) (S.A 14) (S.O (S.deep - 1))) (u + 4) (S.O (S.deep - 1)) (S.A 14) = V
  have a1 : u + 1 ≠ u := by clear s0 s1 s4 r0 r4 hur; omega
  have a4 : u + 4 ≠ u := by clear s0 s1 s4 r0 r4 hur; omega
  have a41 : u + 4 ≠ u + 1 := by clear s0 s1 s4 r0 r4 hur; omega
  have a2 : u + 2 ≠ u ∧ u + 2 ≠ u + 1 ∧ u + 2 ≠ u + 4 := by clear s0 s1 s4 r0 r4 hur; omega
  have a3 : u + 3 ≠ u ∧ u + 3 ≠ u + 1 ∧ u + 3 ≠ u + 4 := by clear s0 s1 s4 r0 r4 hur; omega
  have ar : r ≠ u ∧ r ≠ u + 1 ∧ r ≠ u + 4 := by clear s0 s1 s4 r0 r4; omega
  have ar4 : r + 4 ≠ u ∧ r + 4 ≠ u + 1 ∧ r + 4 ≠ u + 4 := by clear s0 s1 s4 r0 r4; omega
  have s2 := (sepU hu) 2 (by decide) (by decide)
  have s3 := (sepU hu) 3 (by decide) (by decide)
  have v38 : ∀ q : Int, V 38 q = if q = 4 then S.deep - 1 else X 38 q := fun q => by
    rw [← hV, ms_ne (Ne.symm s4.1), ms_ne (Ne.symm s4.1), ms_at]
    by_cases e : q = 4
    · rw [if_pos ⟨rfl, e⟩, if_pos e]
    · rw [if_neg (fun h => e h.2), if_neg e]
  have v39 : V 39 = X 39 := by rw [← hV, ms_ne (Ne.symm s4.2.1), ms_ne (Ne.symm s4.2.1), ms_ne (by decide)]
  have vr : V r = X r := by rw [← hV, ms_ne ar.2.2, ms_ne ar.2.2, ms_ne r0.1]
  have vr4 : V (r + 4) = X (r + 4) := by rw [← hV, ms_ne ar4.2.2, ms_ne ar4.2.2, ms_ne r4.1]
  have v2 : V (u + 2) = X (u + 2) := by rw [← hV, ms_ne a2.2.2, ms_ne a2.2.2, ms_ne s2.1]
  have v3 : V (u + 3) = X (u + 3) := by rw [← hV, ms_ne a3.2.2, ms_ne a3.2.2, ms_ne s3.1]
  have v1 : V (u + 1) = X (u + 1) := by rw [← hV, ms_ne (Ne.symm a41), ms_ne (Ne.symm a41), ms_ne s1.1]
  have v4 : ∀ k : Int, V (u + 4) k = if k = S.O (S.deep - 1) then S.A 14 else if k = S.A 14 then S.O (S.deep - 1) else X (u + 4) k := fun k => by
    rw [← hV, ms_at]
    by_cases e : k = S.O (S.deep - 1)
    · rw [if_pos ⟨rfl, e⟩, if_pos e]
    · rw [if_neg (fun h => e h.2), if_neg e, ms_at]
      by_cases e2 : k = S.A 14
      · rw [if_pos ⟨rfl, e2⟩, if_pos e2]
      · rw [if_neg (fun h => e2 h.2), if_neg e2, ms_ne s4.1]
  have vu0 : V u 0 = S.A 14 + 1 := by rw [← hV, ms_ne (Ne.symm a4), ms_ne (Ne.symm a4), ms_ne s0.1]; exact p1.2.2.2.1
  have vu1 : V u 1 = S.steps := by rw [← hV, ms_ne (Ne.symm a4), ms_ne (Ne.symm a4), ms_ne s0.1]; exact p1.2.2.2.2
  clear hV s0 s1 s2 s3 s4 r0 r4 a1 a4 a41 a2 a3 ar ar4 hur
  refine ⟨⟨by rw [v38]; exact p1.1, by rw [v38]; exact p1.2.1, by rw [v38]; rfl, by rw [vu0, clsL_14], vu1⟩, fun i i0 i1 => by
    rw [v39]
    exact p2 i i0 (by have i1 : i < S.deep - 1 := i1; omega), ⟨by rw [vr]; exact p3, fun b b0 b1 => by rw [vr4]; exact p4 b b0 b1⟩, fun k a b => ?_, fun k a b c => ?_⟩
  · rw [clsL_14] at b
    unfold LNa
    by_cases gk : k = S.A 14
    · rw [gk, v1, l1, n1, n2, n3]
      exact ⟨Or.inl ⟨rfl, rfl⟩, by decide, fun h => by omega, by decide, fun h => absurd rfl h, fun h => by omega, fun h => by omega⟩
    · have hkl : k < S.A 14 := by omega
      have h := p5 k a hkl
      unfold LNa at h
      have q0 := clsL_e (S := S) g0 (k := k) (j := 0) a hkl (by decide) (by decide)
      have q1 := clsL_e (S := S) g0 (k := k) (j := 1) a hkl (by decide) (by decide)
      have q2 := clsL_e (S := S) g0 (k := k) (j := 2) a hkl (by decide) (by decide)
      rw [if_neg (by omega)] at q0 q1 q2
      rw [Int.add_zero] at q0
      rw [v1, v2, v3, q0, q1, q2]
      exact h
  · rw [clsL_14] at b
    unfold LNb
    rw [clsL_14]
    intro hcd
    by_cases gk : k = S.A 14
    · rw [gk, v4, if_neg (by omega), if_pos rfl, n4]
      exact ⟨rfl, hop.1, by omega⟩
    · have hkl : k < S.A 14 := by clear hcd; omega
      have q3 := clsL_e (S := S) g0 (k := k) (j := 3) a hkl (by decide) (by decide)
      by_cases go : k = S.O (S.deep - 1)
      · rw [if_pos ⟨go, rfl⟩] at q3
        rw [v4, if_pos go, q3]
        exact ⟨rfl, g0, by omega⟩
      · rw [if_neg (fun h => go h.1)] at q3
        rw [v1] at hcd
        have hno : ¬ isOp S k := fun ⟨i, i0, i1, i2⟩ => by
          by_cases ei : i = S.deep - 1
          · rw [ei] at i2
            exact go i2.symm
          · exact c ⟨i, i0, by show i < S.deep - 1; clear hcd; omega, i2⟩
        have h := p6 k a hkl hno hcd
        rw [v4, if_neg go, if_neg gk, q3]
        exact ⟨h.1, h.2.1, by have := h.2.2; clear hcd; omega⟩
/-- the reference closes -/
theorem close_Z {m0 : Int} {N0 : Int → Int} {S : Rul} {Z : Mem} (hs : GdU m0 S) (h1 : 1 ≤ S.deep) (hJ : PME m0 N0 S Z) :
    PMU m0 N0 (clsL S) (ms (ms (ms Z 120 24 (S.deep - 1)) 121 (1960 + 4 * S.A 14 + 3) (S.O (S.deep - 1))) 121 (1960 + 4 * S.O (S.deep - 1) + 3) (S.A 14)) := by
  have g0 : 0 ≤ S.A 14 := hs.1.2.2.1.1
  have hop := hs.2.1 (S.deep - 1) (by omega) (by omega)
  obtain ⟨⟨⟨p1, p2, p3⟩, p4, ⟨p5, p6⟩, p7⟩, l1, l2, l3⟩ := hJ
  obtain ⟨n1, n2, n3, n4⟩ := clsL_n (S := S) g0
  have e121 : ∀ q : Int, q ≠ 1960 + 4 * S.A 14 + 3 → q ≠ 1960 + 4 * S.O (S.deep - 1) + 3 → ms (ms (ms Z 120 24 (S.deep - 1)) 121 (1960 + 4 * S.A 14 + 3) (S.O (S.deep - 1))) 121 (1960 + 4 * S.O (S.deep - 1) + 3) (S.A 14) 121 q = Z 121 q := fun q a b => by rw [ms_at, if_neg (fun h => b h.2), ms_at, if_neg (fun h => a h.2), ms_ne (by decide)]
  refine ⟨⟨by rw [e121 1774 (by omega) (by omega), clsL_14]; exact p1, ?_, ?_⟩, fun i i0 i1 => ?_, ⟨by rw [e121 2 (by omega) (by omega)]; exact p5, fun b b0 b1 => by rw [ms_ne (by decide), ms_ne (by decide), ms_ne (by decide)]; exact p6 b b0 b1⟩, fun k j a b c d => ?_⟩
  · rw [ms_ne (by decide), ms_ne (by decide), ms_at, if_pos ⟨rfl, rfl⟩]
    rfl
  · rw [ms_ne (by decide), ms_ne (by decide), ms_at, if_neg (by decide)]
    exact p3
  · have i1 : i < S.deep - 1 := i1
    rw [ms_ne (by decide), ms_ne (by decide), ms_ne (by decide)]
    exact p4 i i0 (by omega)
  · rw [clsL_14] at b
    by_cases gk : k = S.A 14
    · rw [gk]
      rcases (show j = 0 ∨ j = 1 ∨ j = 2 ∨ j = 3 by omega) with rfl | rfl | rfl | rfl
      · rw [Int.add_zero, Int.add_zero, n1, e121 _ (by omega) (by omega), l1]
      · rw [n2, e121 _ (by omega) (by omega), l2]
      · rw [n3, e121 _ (by omega) (by omega), l3]
      · rw [n4, ms_at, if_neg (by omega), ms_at, if_pos ⟨rfl, rfl⟩]
    · have hkl : k < S.A 14 := by omega
      have q := clsL_e (S := S) g0 (k := k) (j := j) a hkl c d
      rw [q]
      by_cases go : k = S.O (S.deep - 1) ∧ j = 3
      · rw [if_pos go, ms_at, if_pos ⟨rfl, by omega⟩]
      · rw [if_neg go, e121 _ (by omega) (by omega)]
        exact p7 k j a hkl c d
theorem PRU.close {T : Int → Int} {n p u r m0 : Int} {N0 : Int → Int} {t : Tok} {S : Rul} (hu : u ∈ RUL) (hr : r ∈ RIV) (hur : u + 4 < r ∨ r + 9 < u) (hn : n ≤ 900) (hT : TXT T n) (hK : TKt T n t) (hp : p ≤ t.e) (hs : GdU m0 S) (h6 : t34 T t = 6) : PRU T n p u r m0 N0 t (PCU u r m0 N0 S) (PMU m0 N0 S) f_X5_takeEnd f_X12_step := by
  have g0 : 0 ≤ S.A 14 := hs.1.2.2.1.1
  have gd := hs.1.1
  have hst := hs.1.2.1
  have hln := hs.1.2.2.1.2
  have hk1 := t34_k (T := T) (t := t) (by rw [h6]; decide)
  have eZ : ∀ Z : Mem, MSt Z T n t → PMU m0 N0 S Z → f_X12_step Z = c1 S.deep (if ¬ S.deep = 0 then B_X12_step_54 6 (S.A 14) (1960 + 4 * S.A 14) Z else B_X12_step_48 Z) := fun Z hM hJ => by
    unfold f_X12_step
    rw [in34 hT hK hM, cl_some, ax_ok (by decide) (by decide), hJ.1.1, bd_eq, bd_eq, h6, c2_ok (by decide) (by decide) (by decide) (by decide), if_neg (by decide), c2_ok (by decide) (by decide) (by decide) (by decide), if_neg (by decide), c2_ok (by decide) (by decide) (by decide) (by decide), if_neg (by decide), hJ.1.2.1]
  by_cases h0 : S.deep = 0
  · refine PARU.bad (hereF t 2) hereF_r hn hK (fun _ _ => trivial) TrC (fun X hC hJ => ?_) (fun Z hM h18 hJ => ?_)
    · unfold f_X5_takeEnd
      rw [hJ.1.2.2.1, h0, c1_0, n00, B_X5_takeEnd_19, c2_ok (by decide) (by decide) (by decide) (by decide), if_neg (by decide), failHere_eq hK hC, cl_some, cz_0]
      rfl
    · rw [eZ Z hM hJ, h0, c1_0, n00, B_X12_step_48, fails_eq hK hM h18, cl_some, cz_0]
      rfl
  · have h1 : 1 ≤ S.deep := by omega
    have g60 : S.A 14 < 60 := by omega
    have hop := hs.2.1 (S.deep - 1) (by omega) (by omega)
    have hG := clsL_G hs h1
    have q0 := u35 hu 0 (by decide) (by decide)
    rw [Int.add_zero] at q0
    have q1 := u35 hu 1 (by decide) (by decide)
    have q4 := u35 hu 4 (by decide) (by decide)
    have s0 := (sepU hu) 0 (by decide) (by decide)
    rw [Int.add_zero] at s0
    have s1 := (sepU hu) 1 (by decide) (by decide)
    have s4 := (sepU hu) 4 (by decide) (by decide)
    have a1 : u ≠ u + 1 := by clear s0 s1 s4 q0 q1 q4; omega
    have a4 : u ≠ u + 4 := by clear s0 s1 s4 q0 q1 q4; omega
    refine PARU.mapX (gX' := fun X12 => cl (f_X8_advance X12) fun _ X14 => cl (f_X8_takeSign X14) fun r15 X16 => cz r15 (some (r15, X16))) (JX' := PCU u r m0 N0 (clsL S)) (PARU.mapZ (gZ' := fun Z => cl (f_X12_ahead Z) fun _ X11 => B_X12_step_331 6 (S.A 14) (1960 + 4 * S.A 14) 0 1 X11) (JZ' := PME m0 N0 S) (PARU.adv (kX := fun X14 => cl (f_X8_takeSign X14) fun r15 X16 => cz r15 (some (r15, X16))) (kZ := B_X12_step_331 6 (S.A 14) (1960 + 4 * S.A 14) 0 1) hT hK (PCU.st hu hr) PME.st (fun k1 k2 => ?_) (fun X Y _ _ e => ?_) (fun Z Y _ _ _ e => ?_)) (fun Z hM h18 hJ => ?_)) (fun X hC hJ => ?_)
    · have hr1 := k1.r
      refine PARU.mapZ (gZ' := B_X12_step_419) (JZ' := PMU m0 N0 (clsL S)) (PARU.sign (clsL S) (by clear s0 s1 s4 q0 q1 q4 a1 a4; omega) hG hn hT k1 (PCU.st hu hr) PMV.st (fun _ _ => trivial) TrC (fun X h => h) (fun X h => h) (fun X Y r h e => sign_X h e) (fun Z Y r h e => by rw [B_X12_step_419, e, cl_some, cz_ok h])) (fun Z hM h18 hJ => ⟨_, ?_, ?_, ?_, close_Z hs h1 hJ, ?_⟩)
      · have e24 : Z 120 24 = S.deep := hJ.1.1.2.1
        have e9 : ∀ v : Int, ms Z 120 24 v 129 = Z 129 := fun v => ms_ne (by decide)
        have e24' : ms Z 120 24 (S.deep - 1) 120 24 = S.deep - 1 := by rw [ms_at, if_pos ⟨rfl, rfl⟩]
        have eo : Z 129 (S.deep - 1) = S.O (S.deep - 1) := hJ.1.2.1 _ (by clear s0 s1 s4 q0 q1 q4 a1 a4; omega) (by clear s0 s1 s4 q0 q1 q4 a1 a4; omega)
        clear s0 s1 s4 q0 q1 q4 a1 a4
        rw [B_X12_step_331, c1_1, n10, c1_0, i00, B_X12_step_363, c2_ok (by decide) (by decide) (by decide) (by decide), if_neg (by decide), e24, bd_eq, e24', ax_ok (by omega) (by omega), ax_ok (by omega) (by omega), e9, eo, bd_eq]
        have e24'' : ms (ms Z 120 24 (S.deep - 1)) 121 (1960 + 4 * S.A 14 + 3) (S.O (S.deep - 1)) 120 24 = S.deep - 1 := by rw [ms_ne (by decide), e24']
        have e9' : ms (ms Z 120 24 (S.deep - 1)) 121 (1960 + 4 * S.A 14 + 3) (S.O (S.deep - 1)) 129 = Z 129 := by rw [ms_ne (by decide), e9]
        rw [e24'', ax_ok (by omega) (by omega), e9', eo, ax_ok (by omega) (by omega), bd_eq]
      · clear s0 s1 s4 q0 q1 q4 a1 a4
        exact ms_mst (ms_mst (ms_mst hM (by decide) (by omega)) (by decide) (by omega)) (by decide) (by omega)
      · rw [ms_ne (by decide), ms_ne (by decide), ms_at, if_neg (by decide)]
        exact h18
      · clear s0 s1 s4 q0 q1 q4 a1 a4
        exact (FrW.s (by omega)).trans ((FrW.q (by omega)).trans (FrW.q (by omega)))
    · show (cl (f_X8_advance X) fun _ X14 => _) = _
      rw [e, cl_some]
    · show (cl (f_X12_ahead Z) fun _ X11 => _) = _
      rw [e, cl_some]
    · clear s0 s1 s4 q0 q1 q4 a1 a4
      obtain ⟨⟨p1, p2, p3⟩, p4, p5, p6⟩ := id hJ
      obtain ⟨k', hk⟩ : ∃ k' : Nat, KF = k' + 1 + 1 + 1 + 1 := ⟨4611686018427387900, by rw [KF_eq]⟩
      obtain ⟨V, hV⟩ : ∃ V : Mem, V = ms (ms (ms (ms (ms (ms Z 120 25 S.steps) 121 (1960 + 4 * S.A 14 + 1) 0) 121 (1960 + 4 * S.A 14 + 2) 0) 121 (1960 + 4 * S.A 14 + 3) 0) 121 (1960 + 4 * S.A 14) 6) 121 1774 (S.A 14 + 1) := ⟨_, rfl⟩
      have vo : ∀ i : Int, i ≠ 120 → i ≠ 121 → V i = Z i := fun i a b => by rw [hV, ms_ne b, ms_ne b, ms_ne b, ms_ne b, ms_ne b, ms_ne a]
      have v120 : ∀ q : Int, V 120 q = Z 120 q := fun q => by
        rw [hV, ms_ne (by decide), ms_ne (by decide), ms_ne (by decide), ms_ne (by decide), ms_ne (by decide), ms_at]
        by_cases e : q = 25
        · rw [if_pos ⟨rfl, e⟩, e, p3]
        · rw [if_neg (fun h => e h.2)]
      have v121 : ∀ q : Int, q < 1960 + 4 * S.A 14 → q ≠ 1774 → V 121 q = Z 121 q := fun q a b => by rw [hV, ms_at, if_neg (fun h => b h.2), ms_at, if_neg (by omega), ms_at, if_neg (by omega), ms_at, if_neg (by omega), ms_at, if_neg (by omega), ms_ne (by decide)]
      refine ⟨V, ?_, hM.fr (vo 127 (by decide) (by decide)) (fun q a b => v120 q), by rw [v120]; exact h18, ⟨⟨⟨?_, by rw [v120]; exact p2, by rw [v120]; exact p3⟩, fun i a b => by rw [vo 129 (by decide) (by decide)]; exact p4 i a b, ⟨by rw [v121 2 (by omega) (by decide)]; exact p5.1, fun b a c => by rw [vo 122 (by decide) (by decide)]; exact p5.2 b a c⟩, fun k i a b c d => by rw [v121 _ (by omega) (by omega)]; exact p6 k i a b c d⟩, ?_, ?_, ?_⟩, ⟨fun i a b _ _ _ => vo i a b, fun q hq => v120 q, fun q hq => ?_, fun q _ => by rw [vo 122 (by decide) (by decide)]⟩⟩
      · have e74 : ms (ms (ms (ms (ms Z 120 25 (S.steps + 0)) 121 (1960 + 4 * S.A 14 + 1) 0) 121 (1960 + 4 * S.A 14 + (1 + 1)) 0) 121 (1960 + 4 * S.A 14 + (1 + 1 + 1)) 0) 121 (1960 + 4 * S.A 14) 6 121 1774 = S.A 14 := by
          rw [ms_at, if_neg (by omega), ms_at, if_neg (by omega), ms_at, if_neg (by omega), ms_at, if_neg (by omega), ms_ne (by decide)]
          exact p1
        rw [eZ Z hM hJ, c1_okk (by omega) (by omega), if_pos h0, B_X12_step_54, c2_ok (by decide) (by decide) (by decide) (by decide), if_neg (by decide), c2_ok (by decide) (by decide) (by decide) (by decide), if_pos (by decide), B_X12_step_69, c2_ok (by decide) (by decide) (by decide) (by decide), if_pos rfl, B_X12_step_93, c1_0, i00, B_X12_step_113, c2_ok (by decide) (by decide) (by decide) (by decide), if_neg (by decide), B_X12_step_129, p3, bd_eq, hk, L_X12_step_136, c2_ok (by decide) (by decide) (by decide) (by decide), if_neg (by decide), ax_ok (by omega) (by omega), bd_eq, L_X12_step_136, c2_ok (by decide) (by decide) (by decide) (by decide), if_neg (by decide), ax_ok (by omega) (by omega), bd_eq, L_X12_step_136, c2_ok (by decide) (by decide) (by decide) (by decide), if_neg (by decide), ax_ok (by omega) (by omega), bd_eq, L_X12_step_136, c2_ok (by decide) (by decide) (by decide) (by decide), if_pos (by decide), B_X12_step_158, ax_ok (by omega) (by omega), bd_eq, ax_ok (by decide) (by decide), ax_ok (by decide) (by decide), e74, bd_eq, hV, Int.add_zero]
        congr 1
      · rw [hV, ms_at, if_pos ⟨rfl, rfl⟩]
      · rw [hV, ms_at, if_neg (by omega), ms_at, if_pos ⟨rfl, rfl⟩]
      · rw [hV, ms_at, if_neg (by omega), ms_at, if_neg (by omega), ms_at, if_neg (by omega), ms_at, if_neg (by omega), ms_at, if_pos ⟨rfl, rfl⟩]
      · rw [hV, ms_at, if_neg (by omega), ms_at, if_neg (by omega), ms_at, if_neg (by omega), ms_at, if_pos ⟨rfl, rfl⟩]
      · exact v121 q (by omega) (by omega)
    · obtain ⟨A, w1, w2, w3, w4⟩ := PCU.add (r1 := 0) hu hr hur g0 g60 hC hJ
      have hcx := close_X hu hr hur hs h1 w3
      have e39 : A 39 (S.deep - 1) = S.O (S.deep - 1) := w3.1.2.1 _ (by clear s0 s1 s4 q0 q1 q4 a1 a4 hur; omega) (by clear s0 s1 s4 q0 q1 q4 a1 a4 hur; omega)
      have h38 := w3.1.1
      refine ⟨_, ?_, ms_cst (ms_cst (ms_cst w2 (by decide) (by decide)) q4.1 q4.2.1) q4.1 q4.2.1, hcx, w4.trans ((ms_frU (Or.inl rfl) (by decide)).trans ((ms_frU q4.2.2 q4.1).trans (ms_frU q4.2.2 q4.1)))⟩
      unfold f_X5_takeEnd
      have x38 : ms A 38 4 (S.deep - 1) 38 4 = S.deep - 1 := by rw [ms_at, if_pos ⟨rfl, rfl⟩]
      have x382 : ms A 38 4 (S.deep - 1) 38 2 = u := by rw [ms_at, if_neg (by decide)]; exact h38.1
      have x39 : ms A 38 4 (S.deep - 1) 39 = A 39 := ms_ne (by decide)
      have z1 : ms (ms A 38 4 (S.deep - 1)) (u + 4) (S.A 14) (S.O (S.deep - 1)) 38 2 = u := by rw [ms_ne (Ne.symm s4.1)]; exact x382
      clear s0 s1 s4 q0 q1 q4 a1 a4 hur
      rw [hJ.1.2.2.1, c1_okk (by omega) (by omega), if_pos h0, hJ.1.1, cm_ok hu, w1, cl_some, B_X5_takeEnd_19, c2_ok (by omega) (by omega) (by decide) (by decide), if_pos (show ¬ S.A 14 = -1 by omega), h38.2.2.1, bd_eq, x38, ax_ok (by omega) (by omega), x39, e39, bd_eq, x382, cm_ok hu, ax_ok g0 (by omega), bd_eq, z1, cm_ok hu, ax_ok hop.1 (by omega), bd_eq]
