/-! the relation after a play -/
theorem rz_play {cn : Int} {X F : Mem} (h : RZ cn X) (e : ∀ i k : Int, ¬ SCR i k → ¬ ANS i k → i ≠ 41 → i ≠ 58 → i ≠ 60 → i ≠ 130 → i ≠ 134 → i ≠ 138 → i ≠ 139 → ¬ (i = 0 ∧ k = 14) → ¬ (i = 120 ∧ ((31 ≤ k ∧ k ≤ 34) ∨ k = 52)) → F i k = X i k) (h41 : ∀ q : Int, q < 0 ∨ 32 ≤ q → F 41 q = 0) (h130 : ∀ q : Int, 0 ≤ q → q < 32 → 0 ≤ F 130 q ∧ F 130 q ≤ 2000000000000) (hQ : RQ F) (hU : RTu (cn + 1) F) (hC : CK cn F) : RZ (cn + 1) F := by
  have e0 : ∀ i : Int, (1 ≤ i ∧ i ≤ 34) ∨ i = 36 ∨ i = 48 ∨ (61 ≤ i ∧ i ≤ 119) ∨ (121 ≤ i ∧ i ≤ 126) ∨ i = 135 → F i = X i := fun i hi => funext fun k => e i k (by unfold SCR; omega) (by unfold ANS; omega) (by omega) (by omega) (by omega) (by omega) (by omega) (by omega) (by omega) (by omega) (by omega)
  have eC : ∀ k : Int, (k ≤ 15 ∨ 19 ≤ k) → k ≠ 14 → F 0 k = X 0 k := fun k hk h14 => e 0 k (by unfold SCR; omega) (by unfold ANS; omega) (by omega) (by omega) (by omega) (by omega) (by omega) (by omega) (by omega) (by omega) (by omega)
  have eM : ∀ k : Int, k = 10 ∨ k = 16 ∨ k = 17 ∨ k = 36 ∨ k = 53 → F 120 k = X 120 k := fun k hk => e 120 k (by unfold SCR; omega) (by unfold ANS; omega) (by omega) (by omega) (by omega) (by omega) (by omega) (by omega) (by omega) (by omega) (by omega)
  have eT : ∀ k : Int, k = 1 ∨ k = 9 ∨ k = 10 → F 35 k = X 35 k := fun k hk => e 35 k (by unfold SCR; omega) (by unfold ANS; omega) (by omega) (by omega) (by omega) (by omega) (by omega) (by omega) (by omega) (by omega) (by omega)
  obtain ⟨h1, h2, h3, h4, h5, h6, h7, h8, h9, h10, h11, h12, h13⟩ := h
  have hp := h1.r
  have e121 := e0 121 (by omega)
  have e122 := e0 122 (by omega)
  refine ⟨?_, ?_, ?_, ?_, ?_, ?_, ?_, ?_, ?_, hQ, ⟨h41, h130⟩, hU, ?_⟩
  · exact h1.fr (eC 3 (by omega) (by decide)) (eC 4 (by omega) (by decide)) (by rw [e0 2 (by omega)]) (by rw [e0 2 (by omega)]) (e0 69 (by omega)) (e0 86 (by omega)) (e0 103 (by omega))
  · rw [e121, e122]
    exact h2.fr (e0 2 (by omega)) (fun i a b => e0 i (by omega)) (fun i a b => e0 i (by omega)) (e0 18 (by omega))
  · rw [e121]
    exact h3
  · rw [eC 3 (by omega) (by decide)]
    exact h4.fr (fun i a b => e0 i (by omega))
  · exact RM.fr h1 h5 (eC 15 (by omega) (by decide)) (eM 53 (by omega)) (fun k _ => by rw [e121]) (fun k _ => by rw [e122]) (fun i a b => e0 i (by omega))
  · exact h6.fr (fun i hi => e0 i (by omega))
  · exact h7.fr (eT 1 (by omega)) (eM 10 (by omega)) (e0 36 (by omega)) (e0 126 (by omega))
  · exact h8.fr (eT 9 (by omega)) (eM 16 (by omega)) (eT 10 (by omega)) (eM 17 (by omega))
  · exact h9.fr (e 42 7 (by unfold SCR; omega) (by unfold ANS; omega) (by omega) (by omega) (by omega) (by omega) (by omega) (by omega) (by omega) (by omega) (by omega)) (eM 36 (by omega)) (e0 48 (by omega)) (e0 135 (by omega))
  · refine ⟨?_, hC.2⟩
    have := hC.1
    omega
theorem REL.ru {cn : Int} {X : Mem} (h : REL cn X) : X 2 1 ∈ RUL ∧ RU X (X 2 1) (X 121) ∧ X 121 3 ≤ 99 ∧ (X 0 14 = 0 ∨ X 0 14 = 1) := by
  obtain ⟨r1, r2, r3, r4, r5, r6, r7, r8, r9, r10, r11, r12, r13⟩ := h.2
  exact ⟨r1.rul.1, r2.2.2.2.1, r3, r10.1⟩
theorem RU.first {X : Mem} {u : Int} {A : Int → Int} (h : RU X u A) (h14 : 0 < A 14) : X (u + 1) 0 ≠ 0 := by
  obtain ⟨q1, -, -, -, -, -, -, -, q9, -⟩ := h.2 0 (by decide) h14
  have q9 := q9 rfl
  rw [show (200 : Int) + 4 * 0 = 200 by decide] at q1 q9
  intro e
  rw [e] at q1
  unfold cdm at q1
  omega
theorem q_play : pair_41 REL := by
  intro f t sd hf ht hs cn X hcn h
  obtain ⟨n1, n2, n3, n4, n5, n6⟩ := h.now
  obtain ⟨u1, u2, u3, u4⟩ := h.ru
  have hn := BD_cells n3
  have hsJ : inJ sd := ⟨by have := hs.1; omega, by have := hs.2; omega⟩
  have hRW := h.rw
  have hTu := h.2.2.2.2.2.2.2.2.2.2.2.2.1
  have hCK := h.2.2.2.2.2.2.2.2.2.2.2.2.2
  show OUT cn (f_X11_play f t sd) (f_X12_play f t sd) X
  by_cases g : ((0 ≤ f ∧ f < X 121 0 * X 121 1) ∧ (0 ≤ t ∧ t < X 121 0 * X 121 1)) ∧ 0 ≤ sd ∧ sd ≤ 9999
  · obtain ⟨⟨g1, g2⟩, g3, g4⟩ := g
    obtain ⟨v, s, Y, X', p1, p2, ⟨p3, p4, p5⟩, p6, p7, p8, p9⟩ := one_play (lo := -(3000000 * cn)) n3 u3 n1 u1 n2 u2 u2.first n4 n5 n6 (X := X) ⟨hRW.1, fun _ _ => rfl, rfl⟩ (by omega) (fun o o0 o1 => (hTu o o0 o1).1) g1.1 g1.2 g2.1 g2.2 g3 g4
    obtain ⟨C, hC⟩ : ∃ C : Mem, C = ms (ms (mc X' 56 0 60 0 7) 0 14 1) 0 16 0 := ⟨_, rfl⟩
    have mcr : ∀ i : Int, i ≠ 60 → mc X' 56 0 60 0 7 i = X' i := fun i hi => ma_ne hi
    have cr : ∀ i : Int, i ≠ 0 → i ≠ 60 → C i = X' i := fun i a b => by rw [hC, ms_ne a, ms_ne a, mcr i b]
    have c60 : ∀ k : Int, 0 ≤ k → k < 7 → C 60 k = s k := fun k k0 k1 => by
      rw [hC, ms_ne (by decide), ms_ne (by decide)]
      unfold mc
      rw [ma_same]
      show (if 0 ≤ k ∧ k < 0 + 7 then X' 56 (0 + (k - 0)) else X' 60 k) = s k
      rw [if_pos ⟨k0, by omega⟩, ← p6 k k0 k1]
      congr 1
      omega
    have c0 : ∀ k : Int, C 0 k = if k = 16 then 0 else if k = 14 then 1 else X 0 k := fun k => by
      rw [hC, ms_at, ms_at, mcr 0 (by decide), p4 0 (by decide)]
      simp
    have c120 : ∀ i : Int, 61 ≤ i → C i = X i := fun i hi => by rw [cr i (by omega) (by omega), p4 i (by omega)]
    have hPZ : PZ C cn (X 121) (X 58) C := by
      refine ⟨c120 121 (by decide), fun o o0 o1 => ?_, ?_, ?_, fun _ _ _ _ _ _ _ _ _ _ _ => rfl⟩
      · rw [c120 138 (by decide)]
        exact (hTu o o0 o1).2
      · rw [c120 130 (by decide)]
        exact hRW.2
      · exact CK.fr n3 hCK (by rw [c120 120 (by decide)]) (by rw [c120 120 (by decide)]) (by rw [c120 120 (by decide)]) (by rw [c120 120 (by decide)]) (by rw [c120 120 (by decide)]) (c120 134 (by decide)) (by rw [c120 121 (by decide)]; exact fun _ _ => rfl)
    obtain ⟨Z, z1, ⟨z2, z3, z4, z5, z6⟩, z7⟩ := p9 C C cn (by omega) hPZ
    obtain ⟨t1, t2, t3, t4, t5, t6, t7, t8⟩ := z7
    obtain ⟨W, hW⟩ : ∃ W : Mem, W = ms (ms (ms (ms (ms (ms (ms (ms (ms Z 139 0 (s 0)) 139 1 (s 1)) 139 2 (s 2)) 139 3 (s 3)) 139 4 (s 4)) 139 5 (s 5)) 139 6 (s 6)) 120 52 1) 120 2 0 := ⟨_, rfl⟩
    have wr : ∀ i : Int, i ≠ 120 → i ≠ 139 → W i = Z i := fun i a b => by
      rw [hW, ms_ne a, ms_ne a, ms_ne b, ms_ne b, ms_ne b, ms_ne b, ms_ne b, ms_ne b, ms_ne b]
    have w120 : ∀ k : Int, W 120 k = if k = 2 then 0 else if k = 52 then 1 else Z 120 k := fun k => by
      rw [hW, ms_at, ms_at, ms_ne (by decide), ms_ne (by decide), ms_ne (by decide), ms_ne (by decide), ms_ne (by decide), ms_ne (by decide), ms_ne (by decide)]
      simp
    have w139 : ∀ k : Int, 0 ≤ k → k < 7 → W 139 k = s k := fun k k0 k1 => by
      rw [hW, ms_ne (by decide), ms_ne (by decide)]
      rcases show k = 0 ∨ k = 1 ∨ k = 2 ∨ k = 3 ∨ k = 4 ∨ k = 5 ∨ k = 6 by omega with rfl | rfl | rfl | rfl | rfl | rfl | rfl <;> simp [ms_at]
    obtain ⟨E1, E2, E3, E4, E5, E6, E7, E8, E9, E10⟩ := p7
    have hsI : ∀ k : Int, 0 ≤ k → k < 7 → inI (s k) := fun k k0 k1 => by
      rcases show k = 0 ∨ k = 1 ∨ k = 2 ∨ k = 3 ∨ k = 4 ∨ k = 5 ∨ k = 6 by omega with rfl | rfl | rfl | rfl | rfl | rfl | rfl <;> exact inI_s (by omega) (by omega)
    refine ⟨v, C, W, ?_, ?_, inI_s (by omega) (by omega), ?_, ?_⟩
    · unfold f_X11_play
      rw [isCell_eq n1 n2 n3 hf, if_pos g1, cl_some, c1_okk (by decide) (by decide), if_neg (by decide), isCell_eq n1 n2 n3 ht, if_pos g2, cl_some, c1_okk (by decide) (by decide), if_neg (by decide), c1_okk hs.1 hs.2, if_neg (by omega), c2_ok hs.1 hs.2 (by decide) (by decide), if_pos g4, p1, cl_some, p2, cl_some, cpk_ok (by decide) (by decide) (by decide) (by decide) (by decide), bd_eq, cz_1, bd_eq, answer_eq, cl_some, hC]
    · have e121 : C 121 = X 121 := c120 121 (by decide)
      unfold f_X12_play f_X12_tellsPlayed
      rw [areCells_eq (by rw [e121]; exact n3) hf ht, e121, if_pos ⟨g1, g2⟩, cl_some, c1_okk (by decide) (by decide), if_neg (by decide), c1_okk hs.1 hs.2, isFrom_eq hsJ (by constructor <;> decide) (by constructor <;> decide), if_pos ⟨g3, g4⟩, cl_some, c1_okk (by decide) (by decide), if_pos (by decide), z1, cl_some]
      have q : ∀ (U : Mem) (k : Int), U 120 = Z 120 → U 120 k = Z 120 k := fun U k e => by rw [e]
      rw [ax_ok (n := 7) (by decide) (by decide), t1, bd_eq, ax_ok (n := 7) (by decide) (by decide), ms_ne (j := 120) (by decide), t2, bd_eq, ax_ok (n := 7) (by decide) (by decide), ms_ne (j := 120) (by decide), ms_ne (j := 120) (by decide), t3, bd_eq, ax_ok (n := 7) (by decide) (by decide), ms_ne (j := 120) (by decide), ms_ne (j := 120) (by decide), ms_ne (j := 120) (by decide), t4, bd_eq, ax_ok (n := 7) (by decide) (by decide), ms_ne (j := 120) (by decide), ms_ne (j := 120) (by decide), ms_ne (j := 120) (by decide), ms_ne (j := 120) (by decide), t5, bd_eq, ax_ok (n := 7) (by decide) (by decide), ms_ne (j := 120) (by decide), ms_ne (j := 120) (by decide), ms_ne (j := 120) (by decide), ms_ne (j := 120) (by decide), ms_ne (j := 120) (by decide), t6, bd_eq, ax_ok (n := 7) (by decide) (by decide), ms_ne (j := 120) (by decide), ms_ne (j := 120) (by decide), ms_ne (j := 120) (by decide), ms_ne (j := 120) (by decide), ms_ne (j := 120) (by decide), ms_ne (j := 120) (by decide), t7, bd_eq, cz_1, bd_eq, cl_some, gives_eq, cl_some, ms_at, if_neg (by decide), ms_ne (j := 120) (by decide), ms_ne (j := 120) (by decide), ms_ne (j := 120) (by decide), ms_ne (j := 120) (by decide), ms_ne (j := 120) (by decide), ms_ne (j := 120) (by decide), ms_ne (j := 120) (by decide), t8, hW]
    · have z0 : ∀ k : Int, Z 0 k = C 0 k := fun k => z6 0 k (by decide) (by decide) (by decide) (by decide) (by decide) (by decide) (by decide) (by decide) (by omega)
      have zc : ∀ k : Int, k < 31 → Z 120 k = X 120 k := fun k hk => by rw [z6 120 k (by decide) (by decide) (by decide) (by decide) (by decide) (by decide) (by decide) (by decide) (by omega), c120 120 (by decide)]
      obtain ⟨s1, ⟨s2, s3⟩, s4, s5⟩ := h.1
      unfold RS
      rw [wr 0 (by decide) (by decide), z0, z0, z0, c0, c0, c0, w120, w120, w120]
      simp [zc]
      exact ⟨⟨s2, s3⟩, s4, s5⟩
    · refine rz_play h.2 (fun i k q1 q2 a1 a2 a3 a4 a5 a6 a7 a8 a9 => ?_) ?_ ?_ ?_ ?_ ?_
      · have hzz : ¬ (i = 120 ∧ ((31 ≤ k ∧ k ≤ 34) ∨ (39 ≤ k ∧ k ≤ 49))) := fun hh => by
          unfold SCR at q1
          omega
        have hne : i ≠ 131 ∧ i ≠ 132 ∧ i ≠ 133 ∧ i ≠ 137 := by
          unfold SCR at q1
          omega
        have hi2 : i = 0 → k ≠ 16 ∧ k ≠ 14 := fun hi => by
          unfold ANS at q2
          omega
        have hcx : C i k = X i k := by
          by_cases g0 : i = 0
          · subst g0
            rw [c0 k, if_neg (hi2 rfl).1, if_neg (hi2 rfl).2]
          · rw [cr i g0 a3]
            by_cases g42 : i = 42
            · subst g42
              by_cases k7 : k = 7
              · rw [k7, p5]
              · exact absurd (by unfold SCR; omega) q1
            · rw [p4 i (by unfold SCR at q1; omega)]
        by_cases g120 : i = 120
        · subst g120
          rw [w120, if_neg (by unfold ANS at q2; omega), if_neg (by omega), z6 120 k (by decide) (by decide) (by decide) (by decide) (by decide) (by decide) (by decide) (by decide) hzz, hcx]
        · rw [wr i g120 a7]
          by_cases g121 : i = 121
          · subst g121
            rw [z2]
          · rw [z6 i k g121 a4 hne.1 hne.2.1 hne.2.2.1 a5 hne.2.2.2 a6 hzz, hcx]
      · rw [wr 41 (by decide) (by decide)]
        intro q hq
        rw [z6 41 q (by decide) (by decide) (by decide) (by decide) (by decide) (by decide) (by decide) (by decide) (by omega), cr 41 (by decide) (by decide)]
        exact p3 q hq
      · rw [wr 130 (by decide) (by decide)]
        exact z4
      · have z0 : Z 0 14 = C 0 14 := z6 0 14 (by decide) (by decide) (by decide) (by decide) (by decide) (by decide) (by decide) (by decide) (by omega)
        have z60 : ∀ k : Int, Z 60 k = C 60 k := fun k => z6 60 k (by decide) (by decide) (by decide) (by decide) (by decide) (by decide) (by decide) (by decide) (by omega)
        refine ⟨?_, ?_, fun _ k k0 k1 => ?_⟩
        · rw [wr 0 (by decide) (by decide), z0, c0]
          simp
        · rw [wr 0 (by decide) (by decide), z0, c0, w120]
          simp
        · rw [wr 60 (by decide) (by decide), z60, c60 k k0 k1, w139 k k0 k1]
          exact ⟨hsI k k0 k1, rfl⟩
      · intro o o0 o1
        have z58 : Z 58 o = X' 58 o := by rw [z6 58 o (by decide) (by decide) (by decide) (by decide) (by decide) (by decide) (by decide) (by decide) (by omega), cr 58 (by decide) (by decide)]
        have h8 := p8 o o0 o1
        rw [wr 58 (by decide) (by decide), wr 138 (by decide) (by decide), z58, z3 o o0 o1]
        exact ⟨by omega, rfl⟩
      · have e : ∀ k : Int, k ≠ 2 → k ≠ 52 → W 120 k = Z 120 k := fun k a b => by rw [w120, if_neg a, if_neg b]
        exact CK.fr (by rw [z2]; exact n3) z5 (e 22 (by decide) (by decide)) (e 31 (by decide) (by decide)) (e 32 (by decide) (by decide)) (e 33 (by decide) (by decide)) (e 34 (by decide) (by decide)) (wr 134 (by decide) (by decide)) (by rw [wr 121 (by decide) (by decide)]; exact fun _ _ => rfl)
  · have e121 : ms X 0 16 1 121 = X 121 := s16 (by decide)
    refine out_st h (r := -1) (v := 1) (by decide) (by decide) inI_m1 ?_ ?_
    · unfold f_X11_play
      rw [isCell_eq n1 n2 n3 hf, cl_some]
      by_cases g1 : 0 ≤ f ∧ f < X 121 0 * X 121 1
      · rw [if_pos g1, c1_okk (by decide) (by decide), if_neg (by decide), isCell_eq n1 n2 n3 ht, cl_some]
        by_cases g2 : 0 ≤ t ∧ t < X 121 0 * X 121 1
        · rw [if_pos g2, c1_okk (by decide) (by decide), if_neg (by decide), c1_okk hs.1 hs.2]
          by_cases g3 : sd < 0
          · rw [if_pos g3, B_X11_play_27, fail_eq, cl_some]
          · rw [if_neg g3, c2_ok hs.1 hs.2 (by decide) (by decide), if_neg (fun g4 => g ⟨⟨g1, g2⟩, by omega, g4⟩), B_X11_play_27, fail_eq, cl_some]
        · rw [if_neg g2, c1_okk (by decide) (by decide), if_pos rfl, B_X11_play_27, fail_eq, cl_some]
      · rw [if_neg g1, c1_okk (by decide) (by decide), if_pos rfl, B_X11_play_27, fail_eq, cl_some]
    · unfold f_X12_play
      rw [areCells_eq (by rw [e121]; exact n3) hf ht, e121, cl_some]
      by_cases g1 : (0 ≤ f ∧ f < X 121 0 * X 121 1) ∧ (0 ≤ t ∧ t < X 121 0 * X 121 1)
      · rw [if_pos g1, c1_okk (by decide) (by decide), if_neg (by decide), c1_okk hs.1 hs.2, isFrom_eq hsJ (by constructor <;> decide) (by constructor <;> decide), if_neg (fun g4 => g ⟨g1, g4⟩), cl_some, c1_okk (by decide) (by decide), if_neg (by decide), B_X12_play_21, refusem_eq, cl_some]
      · rw [if_neg g1, c1_okk (by decide) (by decide), if_pos rfl, B_X12_play_21, refusem_eq, cl_some]
