/-! the easy pairs -/
theorem RZ.core {cn : Int} {X Y : Mem} (h : RZ cn X) (e0 : ∀ i : Int, (1 ≤ i ∧ i ≤ 34) ∨ (69 ≤ i ∧ i ≤ 119) ∨ i = 121 ∨ i = 122 → Y i = X i) (c3 : Y 0 3 = X 0 3) (c4 : Y 0 4 = X 0 4) (c15 : Y 0 15 = X 0 15) (m53 : Y 120 53 = X 120 53) : PT2 Y ∧ SS Y 2 (Y 121) (Y 122) ∧ Y 121 3 ≤ 99 ∧ RB Y (Y 0 3) ∧ RM Y := by
  obtain ⟨h1, h2, h3, h4, h5, -⟩ := h
  have hp := h1.r
  have e121 := e0 121 (by omega)
  have e122 := e0 122 (by omega)
  refine ⟨?_, ?_, ?_, ?_, ?_⟩
  · exact h1.fr c3 c4 (by rw [e0 2 (by omega)]) (by rw [e0 2 (by omega)]) (e0 69 (by omega)) (e0 86 (by omega)) (e0 103 (by omega))
  · rw [e121, e122]
    exact h2.fr (e0 2 (by omega)) (fun i a b => e0 i (by omega)) (fun i a b => e0 i (by omega)) (e0 18 (by omega))
  · rw [e121]
    exact h3
  · rw [c3]
    exact h4.fr (fun i a b => e0 i (by omega))
  · exact RM.fr h1 h5 c15 m53 (fun k _ => by rw [e121]) (fun k _ => by rw [e122]) (fun i a b => e0 i (by omega))
theorem REL.tray {cn : Int} {X Y : Mem} (h : REL cn X) (hS : RS Y) (hT : RT Y) (hF : FT X Y) : REL (cn + 1) Y := by
  have e0 : ∀ i : Int, i ≠ 0 → i ≠ 120 → ¬ (61 ≤ i ∧ i ≤ 68) → ¬ (123 ≤ i ∧ i ≤ 125) → Y i = X i := fun i a b c d => funext fun k => hF i k (by unfold PT; omega)
  have eC : ∀ k : Int, ¬ (16 ≤ k ∧ k ≤ 18) → Y 0 k = X 0 k := fun k hk => hF 0 k (by unfold PT; omega)
  have eM : ∀ k : Int, ¬ (2 ≤ k ∧ k ≤ 4) → Y 120 k = X 120 k := fun k hk => hF 120 k (by unfold PT; omega)
  obtain ⟨c1, c2, c3, c4, c5⟩ := h.2.core (Y := Y) (fun i hi => e0 i (by omega) (by omega) (by omega) (by omega)) (eC 3 (by omega)) (eC 4 (by omega)) (eC 15 (by omega)) (eM 53 (by omega))
  have hB := h.now.2.2.1
  obtain ⟨-, -, -, -, -, -, -, h7, h8, h9, h10, h11, h12, h13⟩ := h
  refine ⟨hS, RZ.up ⟨c1, c2, c3, c4, c5, hT, ?_, ?_, ?_, ?_, ?_, ?_, ?_⟩⟩
  · exact h7.fr (by rw [e0 35 (by decide) (by decide) (by decide) (by decide)]) (eM 10 (by omega)) (e0 36 (by decide) (by decide) (by decide) (by decide)) (e0 126 (by decide) (by decide) (by decide) (by decide))
  · exact h8.fr (by rw [e0 35 (by decide) (by decide) (by decide) (by decide)]) (eM 16 (by omega)) (by rw [e0 35 (by decide) (by decide) (by decide) (by decide)]) (eM 17 (by omega))
  · exact h9.fr (by rw [e0 42 (by decide) (by decide) (by decide) (by decide)]) (eM 36 (by omega)) (e0 48 (by decide) (by decide) (by decide) (by decide)) (e0 135 (by decide) (by decide) (by decide) (by decide))
  · exact h10.fr (eC 14 (by omega)) (eM 52 (by omega)) (e0 60 (by decide) (by decide) (by decide) (by decide)) (e0 139 (by decide) (by decide) (by decide) (by decide))
  · exact h11.fr (e0 41 (by decide) (by decide) (by decide) (by decide)) (e0 130 (by decide) (by decide) (by decide) (by decide))
  · exact h12.fr (e0 58 (by decide) (by decide) (by decide) (by decide)) (e0 138 (by decide) (by decide) (by decide) (by decide))
  · exact CK.fr hB h13 (eM 22 (by omega)) (eM 31 (by omega)) (eM 32 (by omega)) (eM 33 (by omega)) (eM 34 (by omega)) (e0 134 (by decide) (by decide) (by decide) (by decide)) (by rw [e0 121 (by decide) (by decide) (by decide) (by decide)]; exact fun _ _ => rfl)
theorem of_Pr {cn : Int} {a b : Mem → Option (Int × Mem)} {lo hi : Int} (hp : Pr a b lo hi) (h0 : -2147483648 ≤ lo) (h1 : hi ≤ 2147483647) {X : Mem} (h : REL cn X) : OUT cn a b X := by
  obtain ⟨r, X1, X2, e1, e2, e3, e4, e5, e6⟩ := hp X h.1 h.2.2.2.2.2.2.1
  exact ⟨r, X1, X2, e1, e2, ⟨by omega, by omega⟩, h.tray e4 e5 e6⟩
theorem q_status : pair_0 REL := fun cn X _ h => of_Pr pr_status (by decide) (by decide) h
theorem q_top : pair_1 REL := by
  intro cn X _ h
  obtain ⟨r, X1, X2, e1, e2, e3, e4, e5, e6⟩ := pr_top X h.1 h.2.2.2.2.2.2.1
  exact ⟨r, X1, X2, e1, e2, e3, h.tray e4 e5 e6⟩
theorem q_bottom : pair_2 REL := by
  intro cn X _ h
  obtain ⟨r, X1, X2, e1, e2, e3, e4, e5, e6⟩ := pr_bottom X h.1 h.2.2.2.2.2.2.1
  exact ⟨r, X1, X2, e1, e2, e3, h.tray e4 e5 e6⟩
theorem q_tray : pair_3 REL := fun _ _ _ ha hb hc cn X _ h => of_Pr (pr_tray ha hb hc) (by decide) (by decide) h
theorem q_write : pair_4 REL := fun _ _ _ ha hb hc cn X _ h => of_Pr (pr_write ha hb hc) (by decide) (by decide) h
theorem q_read : pair_5 REL := by
  intro a b ha hb cn X _ h
  obtain ⟨r, X1, X2, e1, e2, e3, e4, e5, e6⟩ := pr_read ha hb X h.1 h.2.2.2.2.2.2.1
  exact ⟨r, X1, X2, e1, e2, e3, h.tray e4 e5 e6⟩
theorem q_pour : pair_6 REL := fun _ _ _ _ _ ha hb hc hd he cn X _ h => of_Pr (pr_pour ha hb hc hd he) (by decide) (by decide) h
theorem q_feed : pair_7 REL := by
  intro a b c d e _ _ _ _ _ cn X _ h
  have hB := h.now.2.2.1
  obtain ⟨h0, h1, h2, h3, h4, h5, h6, h7, h8, h9, h10, h11, h12, h13⟩ := id h
  obtain ⟨r, X1, X2, e1, e2, e3, e4, e5⟩ := pr_feed (a := a) (b := b) (c := c) (d := d) (e := e) h7
  have e0 : ∀ i : Int, i ≠ 35 → i ≠ 36 → i ≠ 120 → i ≠ 126 → X2 i = X i := fun i p q s t => funext fun k => e5 i k (by omega)
  have eT : ∀ k : Int, k ≠ 1 → X2 35 k = X 35 k := fun k hk => e5 35 k (by omega)
  have eM : ∀ k : Int, k ≠ 10 → X2 120 k = X 120 k := fun k hk => e5 120 k (by omega)
  obtain ⟨c1, c2, c3, c4, c5⟩ := h.2.core (Y := X2) (fun i hi => e0 i (by omega) (by omega) (by omega) (by omega)) (by rw [e0 0 (by decide) (by decide) (by decide) (by decide)]) (by rw [e0 0 (by decide) (by decide) (by decide) (by decide)]) (by rw [e0 0 (by decide) (by decide) (by decide) (by decide)]) (eM 53 (by decide))
  refine ⟨r, X1, X2, e1, e2, e3, h0.fr fun i k hA => e5 i k (by unfold ANS at hA; omega), RZ.up ⟨c1, c2, c3, c4, c5, ?_, e4, ?_, ?_, ?_, ?_, ?_, ?_⟩⟩
  · exact h6.fr fun i hi => e0 i (by omega) (by omega) (by omega) (by omega)
  · exact h8.fr (eT 9 (by decide)) (eM 16 (by decide)) (eT 10 (by decide)) (eM 17 (by decide))
  · exact h9.fr (by rw [e0 42 (by decide) (by decide) (by decide) (by decide)]) (eM 36 (by decide)) (e0 48 (by decide) (by decide) (by decide) (by decide)) (e0 135 (by decide) (by decide) (by decide) (by decide))
  · exact h10.fr (by rw [e0 0 (by decide) (by decide) (by decide) (by decide)]) (eM 52 (by decide)) (e0 60 (by decide) (by decide) (by decide) (by decide)) (e0 139 (by decide) (by decide) (by decide) (by decide))
  · exact h11.fr (e0 41 (by decide) (by decide) (by decide) (by decide)) (e0 130 (by decide) (by decide) (by decide) (by decide))
  · exact h12.fr (e0 58 (by decide) (by decide) (by decide) (by decide)) (e0 138 (by decide) (by decide) (by decide) (by decide))
  · exact CK.fr hB h13 (eM 22 (by decide)) (eM 31 (by decide)) (eM 32 (by decide)) (eM 33 (by decide)) (eM 34 (by decide)) (e0 134 (by decide) (by decide) (by decide) (by decide)) (by rw [e0 121 (by decide) (by decide) (by decide) (by decide)]; exact fun _ _ => rfl)
theorem q_fault : pair_10 REL := by
  intro p hp cn X _ h
  obtain ⟨r, e1, e2, e3⟩ := pr_fault hp h.2.2.2.2.2.2.2.2.1
  exact ⟨r, X, X, e1, e2, e3, h.up⟩
theorem q_barOf : pair_13 REL := by
  intro c hc cn X hcn h
  obtain ⟨n1, n2, n3, n4, n5, n6⟩ := h.now
  have hcl := BD_cells n3
  have eM : ∀ v : Int, ms X 0 16 v 121 = X 121 := fun v => s16 (by decide)
  show OUT cn (f_X11_barOf c) (f_X12_barOf c) X
  by_cases g : 0 ≤ c ∧ c < X 121 0 * X 121 1
  · have ho := n3.2.2.2.2.2.2.2.2.2.2.2.2.2.2.2.2.2 c g.1 (by omega)
    have h2 := n3.2.1
    have hr := n2.2.2.1 c g.1 (by omega)
    by_cases e : X 121 (108 + c) = -1
    · refine out_st h (r := -1) (v := 6) (by decide) (by decide) inI_m1 ?_ ?_
      · unfold f_X11_barOf
        rw [isCell_eq n1 n2 n3 hc, if_pos g, cl_some, c1_ok (by decide) (by decide), if_pos (by decide), cm_ok n1, ax_ok g.1 (by omega), bd_eq, hr, c2_ok (by omega) (by omega) (by decide) (by decide), if_neg (by simpa using e), fail_eq, cl_some]
      · unfold f_X12_barOf
        rw [c1_ok hc.1 hc.2, isCellm_eq (by rw [eM]; exact n3) (inI_J hc), eM, if_pos g, cl_some, c1_ok (by decide) (by decide), if_pos (by decide), ax_ok (by omega) (by omega), eM, c2_ok (by omega) (by omega) (by decide) (by decide), if_neg (by simpa using e), refusem_eq, cl_some]
    · refine out_st h (r := X 121 (108 + c)) (v := 0) (by decide) (by decide) (inI_s (by omega) (by omega)) ?_ ?_
      · unfold f_X11_barOf
        rw [isCell_eq n1 n2 n3 hc, if_pos g, cl_some, c1_ok (by decide) (by decide), if_pos (by decide), cm_ok n1, ax_ok g.1 (by omega), bd_eq, hr, c2_ok (by omega) (by omega) (by decide) (by decide), if_pos e, answer_eq, cl_some]
      · unfold f_X12_barOf
        rw [c1_ok hc.1 hc.2, isCellm_eq (by rw [eM]; exact n3) (inI_J hc), eM, if_pos g, cl_some, c1_ok (by decide) (by decide), if_pos (by decide), ax_ok (by omega) (by omega), eM, c2_ok (by omega) (by omega) (by decide) (by decide), if_pos e, ax_ok (by omega) (by omega), gives_eq, cl_some]
  · refine out_st h (r := -1) (v := 1) (by decide) (by decide) inI_m1 ?_ ?_
    · unfold f_X11_barOf
      rw [isCell_eq n1 n2 n3 hc, if_neg g, cl_some, c1_ok (by decide) (by decide), if_neg (by decide), fail_eq, cl_some]
    · unfold f_X12_barOf
      rw [c1_ok hc.1 hc.2, isCellm_eq (by rw [eM]; exact n3) (inI_J hc), eM, if_neg g, cl_some, c1_ok (by decide) (by decide), if_neg (by decide), refusem_eq, cl_some]
theorem q_stage : pair_14 REL := by
  intro d hd cn X hcn h
  obtain ⟨n1, n2, n3, n4, n5, n6⟩ := h.now
  have eM : ∀ v : Int, ms X 0 16 v 121 = X 121 := fun v => s16 (by decide)
  have i0 : inJ 0 := by constructor <;> decide
  have i9 : inJ 99 := by constructor <;> decide
  show OUT cn (f_X11_stage d) (f_X12_stage d) X
  by_cases g : 0 ≤ d ∧ d ≤ 99
  · have hs := stg_r n3 g.1
    refine out_st h (r := stg (X 121) d) (v := 0) (by decide) (by decide) (inI_s (by omega) (by omega)) ?_ ?_
    · unfold f_X11_stage
      rw [c1_ok hd.1 hd.2, if_neg (by omega), c2_ok hd.1 hd.2 (by decide) (by decide), if_pos g.2, cm_ok n1, stageOn_eq n2 n3 g.1 hd.2, cl_some, answer_eq, cl_some]
    · unfold f_X12_stage
      rw [c1_ok hd.1 hd.2, isFrom_eq (inI_J hd) i0 i9, if_pos g, cl_some, c1_ok (by decide) (by decide), if_neg (by decide), stageOf_eq (by rw [eM]; exact n3) g.1 hd.2, cl_some, eM, gives_eq, cl_some]
  · refine out_st h (r := -1) (v := 1) (by decide) (by decide) inI_m1 ?_ ?_
    · unfold f_X11_stage B_X11_stage_10
      rw [c1_ok hd.1 hd.2, c2_ok hd.1 hd.2 (by decide) (by decide), fail_eq, cl_some]
      by_cases g2 : d < 0
      · rw [if_pos g2]
      · rw [if_neg g2, if_neg (by omega)]
    · unfold f_X12_stage
      rw [c1_ok hd.1 hd.2, isFrom_eq (inI_J hd) i0 i9, if_neg g, cl_some, c1_ok (by decide) (by decide), if_pos rfl, refusem_eq, cl_some]
theorem q_depth : pair_15 REL := by
  intro c x hc hx cn X hcn h
  obtain ⟨n1, n2, n3, n4, n5, n6⟩ := h.now
  have hcl := BD_cells n3
  have eM : ∀ v : Int, ms X 0 16 v 121 = X 121 := fun v => s16 (by decide)
  have h3 := n3.2.2.1
  show OUT cn (f_X11_depth c x) (f_X12_depth c x) X
  by_cases g : 0 ≤ c ∧ c < X 121 0 * X 121 1
  · by_cases g2 : 0 ≤ x ∧ x < NS (X 121)
    · have hs := stg_r n3 h3.1
      have hd := dep_r n3 (c := c) (x := x) g.1 (by omega) hs
      refine out_st h (r := dep (X 121) (stg (X 121) (X 121 3)) c x) (v := 0) (by decide) (by decide) (inI_s (by omega) (by omega)) ?_ ?_
      · unfold f_X11_depth
        rw [isCell_eq n1 n2 n3 hc, if_pos g, cl_some, c1_ok (by decide) (by decide), if_neg (by decide), isSet_eq n1 n2 n3 hx, if_pos g2, cl_some, c1_ok (by decide) (by decide), if_pos (by decide), cm_ok n1, cm_ok n1, n4, stageOn_eq n2 n3 h3.1 (by omega), cl_some, depthAt_eq n2 n3 g.1 (by omega), cl_some, answer_eq, cl_some]
      · unfold f_X12_depth
        rw [c1_ok hc.1 hc.2, isCellm_eq (by rw [eM]; exact n3) (inI_J hc), eM, if_pos g, cl_some, c1_ok (by decide) (by decide), if_neg (by decide), isSetm_eq (by rw [eM]; exact n3) hx, eM, if_pos g2, cl_some, c1_ok (by decide) (by decide), if_neg (by decide), depthOf_eq (by rw [eM]; exact n3) g.1 (by omega), cl_some, eM, gives_eq, cl_some]
    · refine out_st h (r := -1) (v := 1) (by decide) (by decide) inI_m1 ?_ ?_
      · unfold f_X11_depth
        rw [isCell_eq n1 n2 n3 hc, if_pos g, cl_some, c1_ok (by decide) (by decide), if_neg (by decide), isSet_eq n1 n2 n3 hx, if_neg g2, cl_some, c1_ok (by decide) (by decide), if_neg (by decide), B_X11_depth_16, fail_eq, cl_some]
      · unfold f_X12_depth
        rw [c1_ok hc.1 hc.2, isCellm_eq (by rw [eM]; exact n3) (inI_J hc), eM, if_pos g, cl_some, c1_ok (by decide) (by decide), if_neg (by decide), isSetm_eq (by rw [eM]; exact n3) hx, eM, if_neg g2, cl_some, c1_ok (by decide) (by decide), if_pos rfl, B_X12_depth_30, refusem_eq, cl_some]
  · refine out_st h (r := -1) (v := 1) (by decide) (by decide) inI_m1 ?_ ?_
    · unfold f_X11_depth
      rw [isCell_eq n1 n2 n3 hc, if_neg g, cl_some, c1_ok (by decide) (by decide), if_pos rfl, B_X11_depth_16, fail_eq, cl_some]
    · unfold f_X12_depth
      rw [c1_ok hc.1 hc.2, isCellm_eq (by rw [eM]; exact n3) (inI_J hc), eM, if_neg g, cl_some, c1_ok (by decide) (by decide), if_pos rfl, B_X12_depth_30, refusem_eq, cl_some]
theorem q_part : pair_17 REL := by
  intro x hx cn X hcn h
  obtain ⟨n1, n2, n3, n4, n5, ⟨t1, t2, t3, t4⟩⟩ := h.now
  have hN := NS_r n3.2.1
  have eM : ∀ v : Int, ms X 0 16 v 121 = X 121 := fun v => s16 (by decide)
  show OUT cn (f_X11_part x) (f_X12_part x) X
  by_cases g2 : 0 ≤ x ∧ x < NS (X 121)
  · have h1 := t1 x g2.1 (by omega)
    have h4 := t4 x g2.1 g2.2
    refine out_st h (r := X 18 x) (v := 0) (by decide) (by decide) (inI_s (by omega) (by omega)) ?_ ?_
    · unfold f_X11_part
      rw [isSet_eq n1 n2 n3 hx, if_pos g2, cl_some, c1_ok (by decide) (by decide), if_pos (by decide), ax_ok g2.1 (by omega), answer_eq, cl_some]
    · unfold f_X12_part
      rw [isSetm_eq (by rw [eM]; exact n3) hx, eM, if_pos g2, cl_some, c1_ok (by decide) (by decide), if_neg (by decide), ax_ok (by omega) (by omega), gives_eq, cl_some, eM, h4]
  · refine out_st h (r := -1) (v := 1) (by decide) (by decide) inI_m1 ?_ ?_
    · unfold f_X11_part
      rw [isSet_eq n1 n2 n3 hx, if_neg g2, cl_some, c1_ok (by decide) (by decide), if_neg (by decide), fail_eq, cl_some]
    · unfold f_X12_part
      rw [isSetm_eq (by rw [eM]; exact n3) hx, eM, if_neg g2, cl_some, c1_ok (by decide) (by decide), if_pos rfl, refusem_eq, cl_some]
theorem q_played : pair_42 REL := by
  intro p hp cn X hcn h
  obtain ⟨k0, k1, k2⟩ := h.2.2.2.2.2.2.2.2.2.2.1
  have e : ∀ v : Int, ms X 0 16 v 120 = X 120 := fun v => s16 (by decide)
  show OUT cn (f_X11_played p) (f_X12_played p) X
  by_cases g : 0 ≤ p ∧ p < 7
  · by_cases gp : X 0 14 = 0
    · refine out_st h (r := -1) (v := 6) (by decide) (by decide) inI_m1 ?_ ?_
      · unfold f_X11_played
        rw [c1_ok hp.1 hp.2, if_neg (by omega), c2_ok hp.1 hp.2 (by decide) (by decide), if_pos g.2, c1_ok (by omega) (by omega), if_pos gp, fail_eq, cl_some]
      · unfold f_X12_played
        rw [c1_ok hp.1 hp.2, if_neg (by omega), c2_ok hp.1 hp.2 (by decide) (by decide), if_pos (by omega), e, k1, c1_ok (by omega) (by omega), if_neg (by simpa using gp), refusem_eq, cl_some]
    · obtain ⟨k4, k5⟩ := k2 (by omega) p g.1 g.2
      refine out_st h (r := X 60 p) (v := 0) (by decide) (by decide) k4 ?_ ?_
      · unfold f_X11_played
        rw [c1_ok hp.1 hp.2, if_neg (by omega), c2_ok hp.1 hp.2 (by decide) (by decide), if_pos g.2, c1_ok (by omega) (by omega), if_neg gp, ax_ok g.1 g.2, answer_eq, cl_some]
      · unfold f_X12_played
        rw [c1_ok hp.1 hp.2, if_neg (by omega), c2_ok hp.1 hp.2 (by decide) (by decide), if_pos (by omega), e, k1, c1_ok (by omega) (by omega), if_pos gp, ax_ok g.1 g.2, gives_eq, cl_some, s16 (by decide), k5]
  · refine out_st h (r := -1) (v := 1) (by decide) (by decide) inI_m1 ?_ ?_
    · unfold f_X11_played B_X11_played_10
      rw [c1_ok hp.1 hp.2, c2_ok hp.1 hp.2 (by decide) (by decide), fail_eq, cl_some]
      by_cases g2 : p < 0
      · rw [if_pos g2]
      · rw [if_neg g2, if_neg (by omega)]
    · unfold f_X12_played B_X12_played_10
      rw [c1_ok hp.1 hp.2, c2_ok hp.1 hp.2 (by decide) (by decide), refusem_eq, cl_some]
      by_cases g2 : p < 0
      · rw [if_pos g2]
      · rw [if_neg g2, if_neg (by omega)]
