/-! rules: one step -/
noncomputable def rK (r1 op ln : Int) (X15 : Mem) : Option (Int × Mem) := cl (f_X5_takeRest ln r1 X15) fun r16 X17 => c1 r16 <| if r16 = 0 then some (0, X17) else cF op ln X17
noncomputable def zK (j ln x3 op : Int) (Z : Mem) : Option (Int × Mem) := c1 j <| if j = 0 then B_X12_step_193 j ln x3 op Z else c2 j 1 <| if ¬ j = 1 then B_X12_step_202 j ln x3 op 1 Z else B_X12_step_193 j ln x3 op Z
/-- the class: how many lines -/
theorem PCW.up {ln ln' u r m0 : Int} {N0 : Int → Int} {S : Rul} {X : Mem} (hu : u ∈ RUL) (hr : r ∈ RIV) (hur : u + 4 < r ∨ r + 9 < u) (h : PCW ln u r m0 N0 S X) : PCW ln' u r m0 N0 S (ms X u 0 ln') := by
  obtain ⟨⟨e1, e2, e3, e4⟩, er, er4⟩ := hYs (X := X) (Y := ms X u 0 ln') hu hr hur (fun i a _ _ => ms_ne a)
  have s0 := (sepU hu) 0 (by decide) (by decide)
  rw [Int.add_zero] at s0
  obtain ⟨h1, h2, ⟨h3, h4⟩, h5, h6⟩ := h
  refine ⟨⟨by rw [ms_ne (Ne.symm s0.1)]; exact h1.1, by rw [ms_ne (Ne.symm s0.1)]; exact h1.2.1, by rw [ms_ne (Ne.symm s0.1)]; exact h1.2.2.1, by rw [ms_at, if_pos ⟨rfl, rfl⟩], by rw [ms_at, if_neg (fun h => absurd h.2 (by decide))]; exact h1.2.2.2.2⟩, fun i a b => by rw [ms_ne (Ne.symm s0.2.1)]; exact h2 i a b, ⟨by rw [er]; exact h3, fun b b0 b1 => by rw [er4]; exact h4 b b0 b1⟩, fun k a b => ?_, fun k a b c => ?_⟩
  · have := h5 k a b
    unfold LNa at *
    rw [e1, e2, e3]
    exact this
  · have := h6 k a b c
    unfold LNb at *
    rw [e1, e4]
    exact this
/-- the class: a line more -/
theorem PCU.add {T : Int → Int} {n u r m0 r1 : Int} {N0 : Int → Int} {t : Tok} {S : Rul} {X : Mem} (hu : u ∈ RUL) (hr : r ∈ RIV) (hur : u + 4 < r ∨ r + 9 < u) (g0 : 0 ≤ S.A 14) (g60 : S.A 14 < 60) (hC : CSt X T n t) (h : PCU u r m0 N0 S X) : ∃ Y : Mem, f_X4_add u r1 X = some (S.A 14, Y) ∧ CSt Y T n t ∧ PCL u r m0 N0 S r1 (-1) 0 Y ∧ FrC (WU u) X Y := by
  have hW : PCW (S.A 14) u r m0 N0 S X := h
  have q0 := u35 hu 0 (by decide) (by decide)
  rw [Int.add_zero] at q0
  have q1 := u35 hu 1 (by decide) (by decide)
  have q2 := u35 hu 2 (by decide) (by decide)
  have q3 := u35 hu 3 (by decide) (by decide)
  have q4 := u35 hu 4 (by decide) (by decide)
  have a1 := hW.ln (j := 1) (v := r1) hu hr hur (by decide) (by decide)
  have a2 := a1.ln (j := 2) (v := -1) hu hr hur (by decide) (by decide)
  have a3 := a2.ln (j := 3) (v := 0) hu hr hur (by decide) (by decide)
  have a4 := a3.ln (j := 4) (v := -1) hu hr hur (by decide) (by decide)
  have a5 := a4.up (ln' := S.A 14 + 1) hu hr hur
  have x0 : X u 0 = S.A 14 := hW.1.2.2.2.1
  have x4 : ms (ms (ms (ms X (u + 1) (S.A 14) r1) (u + 2) (S.A 14) (-1)) (u + 3) (S.A 14) 0) (u + 4) (S.A 14) (-1) u 0 = S.A 14 := a4.1.2.2.2.1
  refine ⟨ms (ms (ms (ms (ms X (u + 1) (S.A 14) r1) (u + 2) (S.A 14) (-1)) (u + 3) (S.A 14) 0) (u + 4) (S.A 14) (-1)) u 0 (S.A 14 + 1), ?_, ms_cst (ms_cst (ms_cst (ms_cst (ms_cst hC q1.1 q1.2.1) q2.1 q2.2.1) q3.1 q3.2.1) q4.1 q4.2.1) q0.1 q0.2.1, ⟨a5, ?_, ?_, ?_⟩, (ms_frU q1.2.2 q1.1).trans ((ms_frU q2.2.2 q2.1).trans ((ms_frU q3.2.2 q3.1).trans ((ms_frU q4.2.2 q4.1).trans (ms_frU q0.2.2 q0.1))))⟩
  · clear hur q0 q1 q2 q3 q4 a1 a2 a3 a4 a5
    unfold f_X4_add
    rw [x0, bd_eq, c2_ok (by omega) (by omega) (by decide) (by decide), if_pos g60, ax_ok g0 g60, bd_eq, ax_ok g0 g60, bd_eq, ax_ok g0 g60, bd_eq, ax_ok g0 g60, bd_eq, x4, bd_eq]
  · clear q0 q1 q2 q3 q4
    rw [ms_ne (by omega), ms_ne (by omega), ms_ne (by omega), ms_ne (by omega), ms_at, if_pos ⟨rfl, rfl⟩]
  · clear q0 q1 q2 q3 q4
    rw [ms_ne (by omega), ms_ne (by omega), ms_ne (by omega), ms_at, if_pos ⟨rfl, rfl⟩]
  · clear q0 q1 q2 q3 q4
    rw [ms_ne (by omega), ms_ne (by omega), ms_at, if_pos ⟨rfl, rfl⟩]
theorem PRU.opened {T : Int → Int} {n p u r m0 : Int} {N0 : Int → Int} {t : Tok} {S : Rul} {op r1 j : Int} (hu : u ∈ RUL) (hr : r ∈ RIV) (hur : u + 4 < r ∨ r + 9 < u) (hT : TXT T n) (hK : TKt T n t) (hs : GdU m0 S) (h30 : S.steps < 30) (hj : 0 ≤ j ∧ j ≤ 8 ∧ j ≠ 6)
    (h : TKt T n (nx T n t.e) → t.e ≤ (nx T n t.e).b → PRU T n p u r m0 N0 (nx T n t.e) (PCL u r m0 N0 S r1 (-1) 0) (PML m0 N0 S j 0 0) (rK r1 op (S.A 14)) (zK j (S.A 14) (1960 + 4 * S.A 14) op)) : PRU T n p u r m0 N0 t (PCL u r m0 N0 S r1 (-1) 0) (PMU m0 N0 S) (B_X5_takeStep_97 r1 (S.A 14) op) (B_X12_step_113 j (S.A 14) (1960 + 4 * S.A 14) op) := by
  have g0 : 0 ≤ S.A 14 := hs.1.2.2.1.1
  have gd := hs.1.1
  have hst := hs.1.2.1
  have g60 : S.A 14 < 60 := by
    have := hs.1.2.2.1.2
    omega
  obtain ⟨k1, k2⟩ := nx_t hT hK
  refine PARU.mapX (gX' := fun X13 => cl (f_X8_advance X13) fun _ X15 => rK r1 op (S.A 14) X15) (JX' := PCL u r m0 N0 S r1 (-1) 0) ?_ (fun X hC hJ => ?_)
  · refine PARU.mapZ (gZ' := fun Z => cl (f_X12_ahead Z) fun _ X11 => zK j (S.A 14) (1960 + 4 * S.A 14) op X11) (JZ' := PML m0 N0 S j 0 0) ?_ (fun Z hM h18 hJ => ?_)
    · refine PARU.adv (kX := rK r1 op (S.A 14)) (kZ := zK j (S.A 14) (1960 + 4 * S.A 14) op) hT hK (PCL.st hu hr) PML.st h (fun X Y _ _ e => ?_) (fun Z Y _ _ _ e => ?_)
      · show (cl (f_X8_advance X) fun _ X15 => _) = _
        rw [e, cl_some]
      · show (cl (f_X12_ahead Z) fun _ X11 => _) = _
        rw [e, cl_some]
    · obtain ⟨⟨p1, p2, p3⟩, p4, p5, p6⟩ := hJ
      obtain ⟨k', hk⟩ : ∃ k' : Nat, KF = k' + 1 + 1 + 1 + 1 := ⟨4611686018427387900, by rw [KF_eq]⟩
      obtain ⟨V, hV⟩ : ∃ V : Mem, V = ms (ms (ms (ms (ms (ms Z 120 25 (S.steps + 1)) 121 (1960 + 4 * S.A 14 + 1) 0) 121 (1960 + 4 * S.A 14 + 2) 0) 121 (1960 + 4 * S.A 14 + 3) 0) 121 (1960 + 4 * S.A 14) j) 121 1774 (S.A 14 + 1) := ⟨_, rfl⟩
      have vo : ∀ i : Int, i ≠ 120 → i ≠ 121 → V i = Z i := fun i a b => by rw [hV, ms_ne b, ms_ne b, ms_ne b, ms_ne b, ms_ne b, ms_ne a]
      have v120 : ∀ q : Int, V 120 q = if q = 25 then S.steps + 1 else Z 120 q := fun q => by
        rw [hV, ms_ne (by decide), ms_ne (by decide), ms_ne (by decide), ms_ne (by decide), ms_ne (by decide), ms_at]
        by_cases e : q = 25
        · rw [if_pos ⟨rfl, e⟩, if_pos e]
        · rw [if_neg (fun h => e h.2), if_neg e]
      have v121 : ∀ q : Int, q < 1960 + 4 * S.A 14 → q ≠ 1774 → V 121 q = Z 121 q := fun q a b => by rw [hV, ms_at, if_neg (fun h => b h.2), ms_at, if_neg (by omega), ms_at, if_neg (by omega), ms_at, if_neg (by omega), ms_at, if_neg (by omega), ms_ne (by decide)]
      refine ⟨V, ?_, hM.fr (vo 127 (by decide) (by decide)) (fun q a b => by rw [v120, if_neg (by omega)]), by rw [v120]; exact h18, ⟨⟨⟨?_, ?_, ?_⟩, fun i a b => by rw [vo 129 (by decide) (by decide)]; exact p4 i a b, ⟨by rw [v121 2 (by omega) (by decide)]; exact p5.1, fun b a c => by rw [vo 122 (by decide) (by decide)]; exact p5.2 b a c⟩, fun k i a b c d => by rw [v121 _ (by omega) (by omega)]; exact p6 k i a b c d⟩, ?_, ?_, ?_, ?_⟩, ⟨fun i a b _ _ _ => vo i a b, fun q hq => by rw [v120, if_neg (by omega)], fun q hq => v121 q (by omega) (by omega), fun q _ => by rw [vo 122 (by decide) (by decide)]⟩⟩
      · rw [B_X12_step_113, c2_ok (by omega) (by omega) (by decide) (by decide), if_pos hj.2.2, B_X12_step_129, p3, bd_eq, hk, L_X12_step_136, c2_ok (by decide) (by decide) (by decide) (by decide), if_neg (by decide), ax_ok (by omega) (by omega), bd_eq, L_X12_step_136, c2_ok (by decide) (by decide) (by decide) (by decide), if_neg (by decide), ax_ok (by omega) (by omega), bd_eq, L_X12_step_136, c2_ok (by decide) (by decide) (by decide) (by decide), if_neg (by decide), ax_ok (by omega) (by omega), bd_eq, L_X12_step_136, c2_ok (by decide) (by decide) (by decide) (by decide), if_pos (by decide), B_X12_step_158, ax_ok (by omega) (by omega), bd_eq, ax_ok (by decide) (by decide), ax_ok (by decide) (by decide)]
        have e74 : ms (ms (ms (ms (ms Z 120 25 (S.steps + 1)) 121 (1960 + 4 * S.A 14 + 1) 0) 121 (1960 + 4 * S.A 14 + (1 + 1)) 0) 121 (1960 + 4 * S.A 14 + (1 + 1 + 1)) 0) 121 (1960 + 4 * S.A 14) j 121 1774 = S.A 14 := by
          rw [ms_at, if_neg (by omega), ms_at, if_neg (by omega), ms_at, if_neg (by omega), ms_at, if_neg (by omega), ms_ne (by decide)]
          exact p1
        rw [e74, bd_eq]
        rw [hV]
        rfl
      · rw [hV, ms_at, if_pos ⟨rfl, rfl⟩]
      · rw [v120]; exact p2
      · rw [v120]; rfl
      · rw [hV, ms_at, if_neg (by omega), ms_at, if_pos ⟨rfl, rfl⟩]
      · rw [hV, ms_at, if_neg (by omega), ms_at, if_neg (by omega), ms_at, if_neg (by omega), ms_at, if_neg (by omega), ms_at, if_pos ⟨rfl, rfl⟩]
      · rw [hV, ms_at, if_neg (by omega), ms_at, if_neg (by omega), ms_at, if_neg (by omega), ms_at, if_pos ⟨rfl, rfl⟩]
      · rw [hV, ms_at, if_neg (by omega), ms_at, if_neg (by omega), ms_at, if_pos ⟨rfl, rfl⟩]
  · refine ⟨X, ?_, hC, hJ, FrC.rfl'⟩
    rw [B_X5_takeStep_97]
    rfl
theorem z202 {j ln x3 op : Int} {Z : Mem} (h : 0 ≤ j ∧ j ≤ 8 ∧ j ≠ 2 ∧ j ≠ 3 ∧ j ≠ 5 ∧ j ≠ 4) (r : Int) : B_X12_step_202 j ln x3 op r Z = B_X12_step_331 j ln x3 op r Z := by
  rw [B_X12_step_202, c2_ok (by omega) (by omega) (by decide) (by decide), if_pos h.2.2.1, B_X12_step_219, c2_ok (by omega) (by omega) (by decide) (by decide), if_pos h.2.2.2.1, B_X12_step_236, c2_ok (by omega) (by omega) (by decide) (by decide), if_pos h.2.2.2.2.1, B_X12_step_253, c2_ok (by omega) (by omega) (by decide) (by decide), if_pos h.2.2.2.2.2]
theorem z331_0 {j ln x3 op : Int} {Z : Mem} : B_X12_step_331 j ln x3 op 0 Z = some (0, Z) := by
  rw [B_X12_step_331, c1_0, n00]
theorem cdm_i {d c : Int} (h : (d = 1 ∧ c = 0) ∨ (d = 2 ∧ c = 1) ∨ (d = 3 ∧ c = 2) ∨ (d = 4 ∧ c = 3) ∨ (d = 6 ∧ c = 5) ∨ (d = 7 ∧ c = 7) ∨ (d = 8 ∧ c = 8) ∨ (d = 9 ∧ c = 49) ∨ (d = 10 ∧ c = 50) ∨ (d = 11 ∧ c = 51)) : cdm d c := Or.inr h
noncomputable def whG (ln : Int) (X4 : Mem) : Option (Int × Mem) := cl (cl (f_X5_takeCount ln 0 16 X4) fun r5 X6 => c1 r5 <| if r5 = 0 then some (0, X6) else some (1, X6)) fun r16 X17 => c1 r16 <| if r16 = 0 then some (0, X17) else cF 1 ln X17
noncomputable def whN (ln : Int) (X12 : Mem) : Option (Int × Mem) := cl (cl (cl (f_X5_takeBarName ln X12) fun r13 X14 => cz r13 (some (r13, X14))) fun r3 X4 => c1 r3 <| if r3 = 0 then some (0, X4) else cl (f_X5_takeCount ln 0 16 X4) fun r5 X6 => c1 r5 <| if r5 = 0 then some (0, X6) else some (1, X6)) fun r16 X17 => c1 r16 <| if r16 = 0 then some (0, X17) else cF 1 ln X17
noncomputable def whR (ln x3 : Int) (X25 : Mem) : Option (Int × Mem) := cl (f_X12_ruleName (x3 + 1) X25) fun r28 X29 => c1 r28 <| if r28 = 0 then B_X12_step_328 4 ln x3 1 X29 else B_X12_step_311 4 ln x3 1 X29
/-- when -/
theorem PRU.when {T : Int → Int} {n p u r m0 : Int} {N0 : Int → Int} {t : Tok} {S : Rul} (hu : u ∈ RUL) (hr : r ∈ RIV) (hur : u + 4 < r ∨ r + 9 < u) (hn : n ≤ 900) (hT : TXT T n) (hK : TKt T n t) (hp : p ≤ t.b) (hs : GdU m0 S) (h30 : S.steps < 30) (hN : ∀ b : Int, 0 ≤ b → b < m0 → ∃ a : Int, NM a (N0 b)) (hop : S.deep < 3) :
    PRU T n p u r m0 N0 t (PCL u r m0 N0 S 5 (-1) 0) (PML m0 N0 S 4 0 0) (rK 5 1 (S.A 14)) (zK 4 (S.A 14) (1960 + 4 * S.A 14) 1) := by
  have g0 : 0 ≤ S.A 14 := hs.1.2.2.1.1
  have hm := hs.1.2.2.2
  have gd := hs.1.1
  have hst := hs.1.2.1
  have g60 : S.A 14 < 60 := by
    have := hs.1.2.2.1.2
    omega
  have htr := hK.r
  have q1 := u35 hu 1 (by decide) (by decide)
  have cnt : ∀ (t2 : Tok) (cd cm' bb bb' : Int), TKt T n t2 → p ≤ t2.b → cdm cd cm' → (0 ≤ bb' ∧ bb' < 5) → (cd = 1 ∨ cd = 2 ∨ cd = 9 ∨ cd = 10 → bb = bb') → (9 ≤ cd ∧ cd ≤ 11) → PRU T n p u r m0 N0 t2 (PCL u r m0 N0 S cd bb 0) (PML m0 N0 S cm' bb' 0) (whG (S.A 14)) (B_X12_step_311 4 (S.A 14) (1960 + 4 * S.A 14) 1) := fun t2 cd cm' bb bb' k1 k2 hcd hb hbb h9 => by
    refine PRU.count (lo := 0) (hi := 16) (kX := cF 1 (S.A 14)) (kZ := B_X12_step_331 4 (S.A 14) (1960 + 4 * S.A 14) 1 1) hu hr hur hn hT k1 (inI_s (by decide) (by decide)) (inI_s (by decide) (by decide)) g0 g60 (fun v v0 v1 k3 k4 => ?_) (fun X Y r0 h0 e => ?_) (fun Z Y r0 h0 e => ?_)
    · have hr2 := k1.r
      have hr3 := k3.r
      exact PRU.fin hu hr hur hn hT k3 (by omega) hs h30 (fun _ => hop) ⟨hcd, hb, hbb, ⟨v0, v1⟩, fun h => by clear hbb; omega, fun h => by clear hbb; omega, Or.inr rfl, fun h => by omega, by omega⟩ ⟨by decide, by decide, by decide⟩
    · rw [whG, e, cl_some]
      rcases h0 with rfl | rfl
      · rw [c1_0, i00, cl_some, c1_0, i00]
      · rw [c1_1, i10, cl_some, c1_1]
    · rw [B_X12_step_311, e, cl_some]
      rcases h0 with rfl | rfl
      · rw [c1_0, i00, B_X12_step_328, B_X12_step_329, z331_0, i00]
      · rw [c1_1, i10, B_X12_step_329, i10]
  have i30 : ∀ X : Mem, CSt X T n t → f_X8_is 30 X = some (if t34 T t = 11 then 1 else 0, X) := fun X hC => is34 (a := 30) (q := 11) w34_all.2.2.2.2.2.2.2.2.2.2.2 hT hK hC
  have i31 : ∀ X : Mem, CSt X T n t → f_X8_is 31 X = some (if t34 T t = 9 then 1 else 0, X) := fun X hC => is34 (a := 31) (q := 9) w34_all.2.2.2.2.2.2.2.2.2.1 hT hK hC
  have i32 : ∀ X : Mem, CSt X T n t → f_X8_is 32 X = some (if t34 T t = 10 then 1 else 0, X) := fun X hC => is34 (a := 32) (q := 10) w34_all.2.2.2.2.2.2.2.2.2.2.1 hT hK hC
  have ht := t34_r (T := T) (t := t)
  have eZ : ∀ Z : Mem, MSt Z T n t → zK 4 (S.A 14) (1960 + 4 * S.A 14) 1 Z = if 9 ≤ t34 T t then (bd (ms Z 121 (1960 + 4 * S.A 14) (40 + t34 T t)) fun X23 => cl (f_X12_ahead X23) fun _ X25 => c2 (t34 T t) 11 <| if t34 T t = 11 then B_X12_step_311 4 (S.A 14) (1960 + 4 * S.A 14) 1 X25 else whR (S.A 14) (1960 + 4 * S.A 14) X25) else cl (f_X12_fails 2 Z) fun r30 X31 => cz r30 (some (r30, X31)) := fun Z hM => by
    rw [zK, c1_okk (by decide) (by decide), if_neg (by decide), c2_ok (by decide) (by decide) (by decide) (by decide), if_pos (by decide), B_X12_step_202, c2_ok (by decide) (by decide) (by decide) (by decide), if_pos (by decide), B_X12_step_219, c2_ok (by decide) (by decide) (by decide) (by decide), if_pos (by decide), B_X12_step_236, c2_ok (by decide) (by decide) (by decide) (by decide), if_pos (by decide), B_X12_step_253, c2_ok (by decide) (by decide) (by decide) (by decide), if_neg (by decide), in34 hT hK hM, cl_some, c2_ok (by omega) (by omega) (by decide) (by decide)]
    by_cases g : 9 ≤ t34 T t
    · rw [if_pos g, if_pos g, ax_ok (by omega) (by omega)]
      rfl
    · rw [if_neg g, if_neg g]
  by_cases d11 : t34 T t = 11
  · refine PARU.mapX (gX' := fun X18 => cl (f_X8_advance X18) fun _ X20 => whG (S.A 14) X20) (JX' := PCL u r m0 N0 S 11 (-1) 0) (PARU.mapZ (gZ' := fun Z => cl (f_X12_ahead Z) fun _ X25 => B_X12_step_311 4 (S.A 14) (1960 + 4 * S.A 14) 1 X25) (JZ' := PML m0 N0 S 51 0 0) (PARU.adv (kX := whG (S.A 14)) (kZ := B_X12_step_311 4 (S.A 14) (1960 + 4 * S.A 14) 1) hT hK (PCL.st hu hr) PML.st (fun k1 k2 => cnt _ 11 51 (-1) 0 k1 (by omega) (by unfold cdm; decide) (by decide) (fun h => by omega) (by decide)) (fun X Y _ _ e => ?_) (fun Z Y _ _ _ e => ?_)) (fun Z hM h18 hJ => ⟨ms Z 121 (1960 + 4 * S.A 14) 51, ?_, ms_mst hM (by decide) (by omega), by rw [ms_ne (by decide)]; exact h18, hJ.code g0, FrW.q (by omega)⟩)) (fun X hC hJ => ⟨ms X (u + 1) (S.A 14) 11, ?_, ms_cst hC q1.1 q1.2.1, hJ.code hu hr hur, ms_frU q1.2.2 q1.1⟩)
    · show (cl (f_X8_advance X) fun _ X20 => _) = _
      rw [e, cl_some]
    · show (cl (f_X12_ahead Z) fun _ X25 => _) = _
      rw [e, cl_some]
    · rw [eZ Z hM, d11, if_pos (by decide), bd_eq]
      show (cl (f_X12_ahead (ms Z 121 (1960 + 4 * S.A 14) 51)) fun _ X25 => c2 11 11 <| if (11 : Int) = 11 then B_X12_step_311 4 (S.A 14) (1960 + 4 * S.A 14) 1 X25 else whR (S.A 14) (1960 + 4 * S.A 14) X25) = _
      congr 1
    · rw [rK]
      unfold f_X5_takeRest f_X5_takeWhat
      rw [c1_okk (by decide) (by decide), if_neg (by decide), if_neg (by decide), if_neg (by decide), if_neg (by decide), if_pos rfl, i30 X hC, if_pos d11, cl_some, c1_1, i10, hJ.1.1.1, cm_ok hu, ax_ok g0 g60, bd_eq]
      unfold whG
      simp only [cl_cl, cl_some, c1_1, i10]
  · have word : ∀ cd d : Int, (cd = 9 ∧ d = 9) ∨ (cd = 10 ∧ d = 10) → t34 T t = d → PRU T n p u r m0 N0 t (PCL u r m0 N0 S 5 (-1) 0) (PML m0 N0 S 4 0 0) (rK 5 1 (S.A 14)) (zK 4 (S.A 14) (1960 + 4 * S.A 14) 1) := fun cd d hc hd => by
      have hcd : cdm cd (40 + d) := by
        rcases hc with ⟨h1, h2⟩ | ⟨h1, h2⟩ <;> rw [h1, h2] <;> unfold cdm <;> decide
      have h9 : 9 ≤ d ∧ d ≤ 10 ∧ 9 ≤ cd ∧ cd ≤ 10 := by omega
      refine PARU.mapX (gX' := fun X12 => cl (f_X8_advance X12) fun _ X12 => whN (S.A 14) X12) (JX' := PCL u r m0 N0 S cd (-1) 0) (PARU.mapZ (gZ' := fun Z => cl (f_X12_ahead Z) fun _ X25 => whR (S.A 14) (1960 + 4 * S.A 14) X25) (JZ' := PML m0 N0 S (40 + d) 0 0) (PARU.adv (kX := whN (S.A 14)) (kZ := whR (S.A 14) (1960 + 4 * S.A 14)) hT hK (PCL.st hu hr) PML.st (fun k1 k2 => ?_) (fun X Y _ _ e => ?_) (fun Z Y _ _ _ e => ?_)) (fun Z hM h18 hJ => ⟨ms Z 121 (1960 + 4 * S.A 14) (40 + d), ?_, ms_mst hM (by decide) (by omega), by rw [ms_ne (by decide)]; exact h18, hJ.code g0, FrW.q (by omega)⟩)) (fun X hC hJ => ⟨ms X (u + 1) (S.A 14) cd, ?_, ms_cst hC q1.1 q1.2.1, hJ.code hu hr hur, ms_frU q1.2.2 q1.1⟩)
      · have hr1 := k1.r
        refine PRU.name (kX := whG (S.A 14)) (kZ := B_X12_step_311 4 (S.A 14) (1960 + 4 * S.A 14) 1) hu hr hur hn hT k1 hm hN g0 g60 (fun bar b0 b1 k3 k4 => ?_) (fun X Y r0 h0 e => ?_) (fun Z Y r0 h0 e => ?_)
        · exact cnt _ cd (40 + d) bar bar k3 (by omega) hcd ⟨b0, by omega⟩ (fun _ => rfl) (by omega)
        · rw [whN, e, cl_some, cz_ok h0, cl_some]
          rcases h0 with rfl | rfl
          · rw [c1_0, i00, cl_some, c1_0, i00, i00]
          · rw [c1_1, i10, i10]
            rfl
        · rw [whR, e, cl_some]
          rcases h0 with rfl | rfl
          · rw [c1_0, i00, B_X12_step_328, B_X12_step_329, z331_0, i00]
          · rw [c1_1, i10, i10]
      · show (cl (f_X8_advance X) fun _ X12 => _) = _
        rw [e, cl_some]
      · show (cl (f_X12_ahead Z) fun _ X25 => _) = _
        rw [e, cl_some]
      · rw [eZ Z hM, hd, if_pos h9.1, bd_eq]
        congr 1
        funext x X25
        rw [c2_ok (by omega) (by omega) (by decide) (by decide), if_neg (by omega)]
      · rw [rK]
        unfold f_X5_takeRest f_X5_takeWhat
        rw [c1_okk (by decide) (by decide), if_neg (by decide), if_neg (by decide), if_neg (by decide), if_neg (by decide), if_pos rfl, i30 X hC, if_neg d11, cl_some, c1_0, i00, i31 X hC]
        rcases hc with ⟨h1, h2⟩ | ⟨h1, h2⟩
        · rw [if_pos (by omega), cl_some, c1_1, i10, hJ.1.1.1, cm_ok hu, ax_ok g0 g60, bd_eq, h1]
          unfold B_X5_takeWhat_92 whN
          simp only [cl_cl]
        · rw [if_neg (by omega), cl_some, c1_0, i00, i32 X hC, if_pos (by omega), cl_some, c1_1, i10, hJ.1.1.1, cm_ok hu, ax_ok g0 g60, bd_eq, h1]
          unfold B_X5_takeWhat_92 whN
          simp only [cl_cl]
    by_cases d9 : t34 T t = 9
    · exact word 9 9 (Or.inl ⟨rfl, rfl⟩) d9
    · by_cases d10 : t34 T t = 10
      · exact word 10 10 (Or.inr ⟨rfl, rfl⟩) d10
      · refine PARU.bad (hereF t 2) hereF_r hn hK (fun _ _ => trivial) TrC (fun X hC hJ => ?_) (fun Z hM h18 hJ => ?_)
        · rw [rK]
          unfold f_X5_takeRest f_X5_takeWhat
          rw [c1_okk (by decide) (by decide), if_neg (by decide), if_neg (by decide), if_neg (by decide), if_neg (by decide), if_pos rfl, i30 X hC, if_neg d11, cl_some, c1_0, i00, i31 X hC, if_neg d9, cl_some, c1_0, i00, i32 X hC, if_neg d10, cl_some, c1_0, i00, failHere_eq hK hC, cl_some, cz_0, cl_some, c1_0, i00, cl_some, c1_0, i00]
          rfl
        · rw [eZ Z hM, if_neg (by omega), fails_eq hK hM h18, cl_some, cz_0]
          rfl
/-- what stands behind a step's word -/
theorem PRU.rest {T : Int → Int} {n p u r m0 : Int} {N0 : Int → Int} {t : Tok} {S : Rul} {op r1 j : Int} (hu : u ∈ RUL) (hr : r ∈ RIV) (hur : u + 4 < r ∨ r + 9 < u) (hn : n ≤ 900) (hT : TXT T n) (hK : TKt T n t) (hp : p ≤ t.b) (hs : GdU m0 S) (h30 : S.steps < 30) (hN : ∀ b : Int, 0 ≤ b → b < m0 → ∃ a : Int, NM a (N0 b)) (hop : op = 1 → S.deep < 3)
    (hj : (r1 = 1 ∧ j = 0 ∧ op = 0) ∨ (r1 = 2 ∧ j = 1 ∧ op = 0) ∨ (r1 = 3 ∧ j = 2 ∧ op = 0) ∨ (r1 = 4 ∧ j = 3 ∧ op = 0) ∨ (r1 = 5 ∧ j = 4 ∧ op = 1) ∨ (r1 = 6 ∧ j = 5 ∧ op = 1) ∨ (r1 = 7 ∧ j = 7 ∧ op = 0) ∨ (r1 = 8 ∧ j = 8 ∧ op = 0)) :
    PRU T n p u r m0 N0 t (PCL u r m0 N0 S r1 (-1) 0) (PML m0 N0 S j 0 0) (rK r1 op (S.A 14)) (zK j (S.A 14) (1960 + 4 * S.A 14) op) := by
  revert hj
  have g0 : 0 ≤ S.A 14 := hs.1.2.2.1.1
  have hm := hs.1.2.2.2
  have gd := hs.1.1
  have hst := hs.1.2.1
  have g60 : S.A 14 < 60 := by
    have := hs.1.2.2.1.2
    omega
  have htr := hK.r
  have fin : ∀ (t2 : Tok) (cd bb cm' bb' nn : Int), TKt T n t2 → p ≤ t2.e → okL op cd cm' bb bb' nn → j ≠ 6 → 0 ≤ j ∧ j ≤ 20 → PRU T n p u r m0 N0 t2 (PCL u r m0 N0 S cd bb nn) (PML m0 N0 S cm' bb' nn) (cF op (S.A 14)) (B_X12_step_331 j (S.A 14) (1960 + 4 * S.A 14) op 1) := fun t2 cd bb cm' bb' nn k1 k2 hk h6 hjr => PRU.fin hu hr hur hn hT k1 k2 hs h30 hop hk ⟨h6, hjr⟩
  have nameCase : ∀ (c j' : Int), cdm c j' → r1 = c → j = j' → op = 0 → (c = 1 ∧ j' = 0) ∨ (c = 2 ∧ j' = 1) → PRU T n p u r m0 N0 t (PCL u r m0 N0 S r1 (-1) 0) (PML m0 N0 S j 0 0) (rK r1 op (S.A 14)) (zK j (S.A 14) (1960 + 4 * S.A 14) op) := fun c j' hcd e1 e2 e3 hc => by
    subst e1 e2 e3
    refine PRU.name (kX := cF 0 (S.A 14)) (kZ := B_X12_step_331 j (S.A 14) (1960 + 4 * S.A 14) 0 1) hu hr hur hn hT hK hm hN g0 g60 (fun bar b0 b1 k1 k2 => ?_) (fun X Y r0 h0 e => ?_) (fun Z Y r0 h0 e => ?_)
    · refine fin _ _ _ _ _ _ k1 (by have := k1.r; omega) ⟨hcd, ⟨b0, by omega⟩, fun _ => rfl, by decide, fun h => by decide, fun h => by clear fin hcd hop; omega, Or.inl rfl, fun _ h => by clear fin hcd hop; omega, by clear fin hcd hop; omega⟩ (by clear fin hcd hop; omega) (by clear fin hcd hop; omega)
    · rw [rK]
      unfold f_X5_takeRest
      rcases hc with ⟨h1, -⟩ | ⟨h1, -⟩
      · rw [h1, c1_1, if_pos rfl, e, cl_some, cz_ok h0, cl_some]
        rcases h0 with rfl | rfl
        · rw [c1_0]
        · rw [c1_1]
      · rw [h1, c1_okk (by decide) (by decide), if_neg (by decide), if_pos rfl, e, cl_some, cz_ok h0, cl_some]
        rcases h0 with rfl | rfl
        · rw [c1_0]
        · rw [c1_1]
    · have e193 : B_X12_step_193 j (S.A 14) (1960 + 4 * S.A 14) 0 Z = if r0 = 0 then some (0, Y) else B_X12_step_331 j (S.A 14) (1960 + 4 * S.A 14) 0 1 Y := by
        rw [B_X12_step_193, e, cl_some, z202 (by omega)]
        rcases h0 with rfl | rfl
        · rw [z331_0, i00]
        · rw [i10]
      rw [zK]
      rcases hc with ⟨-, h1⟩ | ⟨-, h1⟩
      · rw [h1] at e193 ⊢
        rw [c1_0, i00, e193]
      · rw [h1] at e193 ⊢
        rw [c1_1, i10, c2_ok (by decide) (by decide) (by decide) (by decide), if_neg (by decide), e193]
  have zK2 : ∀ Z : Mem, (2 ≤ j ∧ j ≤ 8) → zK j (S.A 14) (1960 + 4 * S.A 14) op Z = B_X12_step_202 j (S.A 14) (1960 + 4 * S.A 14) op 1 Z := fun Z h => by
    rw [zK, c1_okk (by omega) (by omega), if_neg (by omega), c2_ok (by omega) (by omega) (by decide) (by decide), if_pos (by omega)]
  have numCase : ∀ lo hi : Int, inI lo → inI hi → 0 ≤ lo → hi ≤ 9 → (r1 = 6 → 1 ≤ lo) → (2 ≤ j ∧ j ≤ 8) → j ≠ 6 → (∀ X : Mem, f_X5_takeRest (S.A 14) r1 X = cl (f_X5_takeCount (S.A 14) lo hi X) fun r9 X10 => cz r9 (some (r9, X10))) → (∀ Z : Mem, B_X12_step_202 j (S.A 14) (1960 + 4 * S.A 14) op 1 Z = cl (f_X12_number (1960 + 4 * S.A 14 + 2) lo hi Z) fun r36 X37 => B_X12_step_331 j (S.A 14) (1960 + 4 * S.A 14) op r36 X37) → cdm r1 j → (op = 0 ∨ op = 1) → (op = 0 → ¬ (r1 = 0 ∨ r1 = 6 ∨ r1 = 9 ∨ r1 = 10 ∨ r1 = 11)) → (r1 = 3 ∨ r1 = 4 ∨ r1 = 6) → PRU T n p u r m0 N0 t (PCL u r m0 N0 S r1 (-1) 0) (PML m0 N0 S j 0 0) (rK r1 op (S.A 14)) (zK j (S.A 14) (1960 + 4 * S.A 14) op) := fun lo hi hlo hhi h0 h9 h6 hj2 hj6 hX hZ hcd ho hno hr1 => by
    refine PRU.count (kX := cF op (S.A 14)) (kZ := B_X12_step_331 j (S.A 14) (1960 + 4 * S.A 14) op 1) hu hr hur hn hT hK hlo hhi g0 g60 (fun v v0 v1 k1 k2 => ?_) (fun X Y r0 h0 e => ?_) (fun Z Y r0 h0 e => ?_)
    · refine fin _ _ _ _ _ _ k1 (by have := k1.r; omega) ⟨hcd, by decide, fun h => by omega, ⟨by omega, by omega⟩, fun _ => by omega, fun h => by have := h6 h; omega, ho, hno, by omega⟩ hj6 (by omega)
    · rw [rK, hX, e, cl_some, cz_ok h0, cl_some]
      rcases h0 with rfl | rfl
      · rw [c1_0]
      · rw [c1_1]
    · rw [zK2 Z hj2, hZ, e, cl_some]
      rcases h0 with rfl | rfl
      · rw [z331_0, i00]
      · rw [i10]
  have noCase : ∀ x : Int, cdm x x → r1 = x → j = x → op = 0 → x = 7 ∨ x = 8 → PRU T n p u r m0 N0 t (PCL u r m0 N0 S r1 (-1) 0) (PML m0 N0 S j 0 0) (rK r1 op (S.A 14)) (zK j (S.A 14) (1960 + 4 * S.A 14) op) := fun x hcd e1 e2 e3 hx => by
    subst e1 e3
    rw [e2] at fin zK2 ⊢
    refine PARU.mapX (PARU.mapZ (fin t r1 (-1) r1 0 0 hK (by omega) ⟨hcd, by decide, fun h => by omega, by decide, fun h => by omega, fun h => by omega, Or.inl rfl, fun _ h => by omega, by omega⟩ (by omega) (by omega)) (fun Z hM h18 hJ => ⟨Z, ?_, hM, h18, hJ, FrW.rfl'⟩)) (fun X hC hJ => ⟨X, ?_, hC, hJ, FrC.rfl'⟩)
    · rw [zK2 Z (by omega), z202 (by omega)]
    · rw [rK]
      unfold f_X5_takeRest
      rw [c1_okk (by omega) (by omega), if_neg (by omega), if_neg (by omega), if_neg (by omega), if_neg (by omega), if_neg (by omega), if_neg (by omega), cl_some, c1_1, i10]
  intro hj
  rcases hj with ⟨e1, e2, e3⟩ | ⟨e1, e2, e3⟩ | ⟨e1, e2, e3⟩ | ⟨e1, e2, e3⟩ | ⟨e1, e2, e3⟩ | ⟨e1, e2, e3⟩ | ⟨e1, e2, e3⟩ | ⟨e1, e2, e3⟩
  · exact nameCase 1 0 (by unfold cdm; decide) e1 e2 e3 (Or.inl ⟨rfl, rfl⟩)
  · exact nameCase 2 1 (by unfold cdm; decide) e1 e2 e3 (Or.inr ⟨rfl, rfl⟩)
  · subst e1 e2 e3
    refine numCase 1 9 (inI_s (by decide) (by decide)) (inI_s (by decide) (by decide)) (by decide) (by decide) (fun h => by omega) (by decide) (by decide) (fun X => ?_) (fun Z => ?_) (by unfold cdm; decide) (Or.inl rfl) (fun _ h => by omega) (by omega)
    · unfold f_X5_takeRest
      rw [c1_okk (by decide) (by decide), if_neg (by decide), if_neg (by decide), if_pos rfl]
    · rw [B_X12_step_202, c2_ok (by decide) (by decide) (by decide) (by decide), if_neg (by decide)]
      congr 1
  · subst e1 e2 e3
    refine numCase 0 9 (inI_s (by decide) (by decide)) (inI_s (by decide) (by decide)) (by decide) (by decide) (fun h => by omega) (by decide) (by decide) (fun X => ?_) (fun Z => ?_) (by unfold cdm; decide) (Or.inl rfl) (fun _ h => by omega) (by omega)
    · unfold f_X5_takeRest
      rw [c1_okk (by decide) (by decide), if_neg (by decide), if_neg (by decide), if_neg (by decide), if_pos rfl]
    · rw [B_X12_step_202, c2_ok (by decide) (by decide) (by decide) (by decide), if_pos (by decide), B_X12_step_219, c2_ok (by decide) (by decide) (by decide) (by decide), if_neg (by decide)]
      congr 1
  · subst e1 e2 e3
    exact PRU.when hu hr hur hn hT hK hp hs h30 hN (hop rfl)
  · subst e1 e2 e3
    refine numCase 1 9 (inI_s (by decide) (by decide)) (inI_s (by decide) (by decide)) (by decide) (by decide) (fun h => by decide) (by decide) (by decide) (fun X => ?_) (fun Z => ?_) (by unfold cdm; decide) (Or.inr rfl) (fun h => by omega) (by omega)
    · unfold f_X5_takeRest
      rw [c1_okk (by decide) (by decide), if_neg (by decide), if_neg (by decide), if_neg (by decide), if_neg (by decide), if_neg (by decide), if_pos rfl]
    · rw [B_X12_step_202, c2_ok (by decide) (by decide) (by decide) (by decide), if_pos (by decide), B_X12_step_219, c2_ok (by decide) (by decide) (by decide) (by decide), if_pos (by decide), B_X12_step_236, c2_ok (by decide) (by decide) (by decide) (by decide), if_neg (by decide)]
      congr 1
  · exact noCase 7 (by unfold cdm; decide) e1 e2 e3 (Or.inl rfl)
  · exact noCase 8 (by unfold cdm; decide) e1 e2 e3 (Or.inr rfl)
