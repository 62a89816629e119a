/-! many plays -/
theorem tally_loop {X0 : Mem} {A : Int → Int} {f t sd m how lo : Int} (hB : BD A) (h3 : A 3 ≤ 99) (h2 : X0 2 0 ∈ RIV) (h2u : X0 2 1 ∈ RUL) (hR : RV X0 (X0 2 0) A) (hU : RU X0 (X0 2 1) A) (hz : 0 < A 14 → X0 (X0 2 1 + 1) 0 ≠ 0) (e3 : X0 2 3 = A 3) (e4 : X0 2 4 = A 4) (hT : TH (X0 18) A) (hlo : -1890000000 ≤ lo ∧ lo ≤ 0) (f0 : 0 ≤ f) (f1 : f < A 0 * A 1) (t0 : 0 ≤ t) (t1 : t < A 0 * A 1) (sd0 : 0 ≤ sd) (sd1 : sd + m - 1 ≤ 9999) (m1 : 1 ≤ m ∧ m ≤ 30) (hh : 0 ≤ how ∧ how ≤ 3) : ∀ (k : Nat) (n i : Int) (X : Mem), 0 ≤ i → i ≤ m → (m - i).toNat < k → (0 ≤ n ∧ n ≤ i) → PG X0 X → TB (lo - 95000 * i) (X 58) →
    ∃ (c : Int) (X' : Mem), L_X11_tally_75 k f t sd m how n i X = some (c, ms X' 0 16 0) ∧ PG X0 X' ∧ TB (lo - 95000 * m) (X' 58) ∧ (0 ≤ c ∧ c ≤ m) ∧ ∀ (Zs Z : Mem) (cn : Int), cn ≤ 1000 → PZ Zs cn A (X 58) Z → ∃ Z' : Mem, L_X12_tally_69 k f t sd m how n i Z = some (c, ms Z' 120 2 0) ∧ PZ Zs cn A (X' 58) Z' := by
  intro k
  induction k with
  | zero => intro n i X _ _ h; omega
  | succ k ih =>
    intro n i X i0 i1 hk hn hX hTB
    by_cases g : m ≤ i
    · have ei : i = m := by omega
      refine ⟨n, X, ?_, hX, by rw [← ei]; exact hTB, by omega, fun Zs Z cn hcn hZ => ⟨Z, ?_, hZ⟩⟩
      · rw [L_X11_tally_75, c2_ok (by omega) (by omega) (by omega) (by omega), if_pos g, B_X11_tally_120, answer_eq, cl_some]
      · rw [L_X12_tally_69, c2_ok (by omega) (by omega) (by omega) (by omega), if_pos g, B_X12_tally_111, gives_eq, cl_some]
    · obtain ⟨v, s, Y, X1, p1, p2, p3, p6, p7, p8, p9⟩ := one_play (f := f) (t := t) (sd := sd + i) (lo := lo - 95000 * i) hB h3 h2 h2u hR hU hz e3 e4 hT hX (by omega) hTB f0 f1 t0 t1 (by omega) (by omega)
      have hv := p7.1
      obtain ⟨c, X', q1, q2, q3, q4, q5⟩ := ih (if v = how then n + 1 else n) (i + 1) X1 (by omega) (by omega) (by omega) (by split <;> omega) p3 (p8.mono (by omega))
      refine ⟨c, X', ?_, q2, q3, q4, fun Zs Z cn hcn hZ => ?_⟩
      · rw [L_X11_tally_75, c2_ok (by omega) (by omega) (by omega) (by omega), if_neg g, p1, cl_some, p2, cl_some, c2_ok (by omega) (by omega) (by omega) (by omega)]
        by_cases gv : v = how
        · rw [if_pos gv] at q1
          rw [if_neg (by simpa using gv), B_X11_tally_114]
          exact q1
        · rw [if_neg gv] at q1
          rw [if_pos gv, B_X11_tally_114]
          exact q1
      · obtain ⟨Z1, z1, z2, z3⟩ := p9 Zs Z cn hcn hZ
        obtain ⟨Z', y1, y2⟩ := q5 Zs Z1 cn hcn z2
        refine ⟨Z', ?_, y2⟩
        have e49 : Z1 120 49 = v := z3.2.2.2.2.2.2.2
        rw [L_X12_tally_69, c2_ok (by omega) (by omega) (by omega) (by omega), if_neg g, z1, cl_some, e49, c2_ok (by omega) (by omega) (by omega) (by omega)]
        by_cases gv : v = how
        · rw [if_pos gv] at y1
          rw [if_neg (by simpa using gv), B_X12_tally_102, bd_eq]
          exact y1
        · rw [if_neg gv] at y1
          rw [if_pos gv, B_X12_tally_102, bd_eq, Int.add_zero]
          exact y1
theorem q_tally : pair_43 REL := by
  intro f t sd m how hf ht hs hm hh cn X hcn h
  obtain ⟨n1, n2, n3, n4, n5, n6⟩ := h.now
  obtain ⟨u1, u2, u3, u4⟩ := h.ru
  have hn := BD_cells n3
  have hsJ : inJ sd := ⟨by have := hs.1; omega, by have := hs.2; omega⟩
  have hmJ : inJ m := ⟨by have := hm.1; omega, by have := hm.2; omega⟩
  have hRW := h.rw
  have hTu := h.2.2.2.2.2.2.2.2.2.2.2.2.1
  have hCK := h.2.2.2.2.2.2.2.2.2.2.2.2.2
  have hRQ : RQ X := h.2.2.2.2.2.2.2.2.2.2.1
  show OUT cn (f_X11_tally f t sd m how) (f_X12_tally f t sd m how) X
  have k0 : inJ 0 := ⟨by decide, by decide⟩
  by_cases g : (((0 ≤ f ∧ f < X 121 0 * X 121 1) ∧ (0 ≤ t ∧ t < X 121 0 * X 121 1)) ∧ 0 ≤ sd ∧ sd ≤ 9999) ∧ (1 ≤ m ∧ m ≤ 30) ∧ sd + m - 1 ≤ 9999 ∧ 0 ≤ how ∧ how ≤ 3
  · obtain ⟨⟨⟨g1, g2⟩, g3, g4⟩, g5, g6, g7⟩ := g
    obtain ⟨c, X', p2, ⟨p3, p4, p5⟩, p8, pc, p9⟩ := tally_loop (f := f) (t := t) (sd := sd) (m := m) (how := how) (lo := -(3000000 * cn)) n3 u3 n1 u1 n2 u2 u2.first n4 n5 n6 (by omega) g1.1 g1.2 g2.1 g2.2 g3 g6 g5 g7 KF 0 0 X (by decide) (by omega) (by rw [KF_eq]; omega) (by decide) ⟨hRW.1, fun _ _ => rfl, rfl⟩ (fun o o0 o1 => by have := (hTu o o0 o1).1; omega)
    obtain ⟨C, hC⟩ : ∃ C : Mem, C = ms X' 0 16 0 := ⟨_, rfl⟩
    have cr : ∀ i : Int, i ≠ 0 → C i = X' i := fun i a => by rw [hC, ms_ne a]
    have c0 : ∀ k : Int, C 0 k = if k = 16 then 0 else X 0 k := fun k => by
      rw [hC, ms_at, p4 0 (by decide)]
      simp
    have c120 : ∀ i : Int, 59 ≤ i → C i = X i := fun i hi => by rw [cr i (by omega), p4 i (by omega)]
    have hPZ : PZ C cn (X 121) (X 58) C := by
      refine ⟨c120 121 (by decide), fun o o0 o1 => ?_, ?_, ?_, fun _ _ _ _ _ _ _ _ _ _ _ => rfl⟩
      · rw [c120 138 (by decide)]
        exact (hTu o o0 o1).2
      · rw [c120 130 (by decide)]
        exact hRW.2
      · exact CK.fr n3 hCK (by rw [c120 120 (by decide)]) (by rw [c120 120 (by decide)]) (by rw [c120 120 (by decide)]) (by rw [c120 120 (by decide)]) (by rw [c120 120 (by decide)]) (c120 134 (by decide)) (by rw [c120 121 (by decide)]; exact fun _ _ => rfl)
    obtain ⟨Z, z1, z2, z3, z4, z5, z6⟩ := p9 C C cn (by omega) hPZ
    have wr : ∀ i : Int, i ≠ 120 → ms Z 120 2 0 i = Z i := fun i a => ms_ne a
    have w120 : ∀ k : Int, ms Z 120 2 0 120 k = if k = 2 then 0 else Z 120 k := fun k => by
      rw [ms_at]
      simp
    have z0 : ∀ k : Int, Z 0 k = C 0 k := fun k => z6 0 k (by decide) (by decide) (by decide) (by decide) (by decide) (by decide) (by decide) (by decide) (by omega)
    have zc : ∀ k : Int, k < 31 ∨ 49 < k → Z 120 k = X 120 k := fun k hk => by rw [z6 120 k (by decide) (by decide) (by decide) (by decide) (by decide) (by decide) (by decide) (by decide) (by omega), c120 120 (by decide)]
    refine ⟨c, C, ms Z 120 2 0, ?_, ?_, inI_s (by omega) (by omega), ?_, ?_⟩
    · unfold f_X11_tally
      rw [isCell_eq n1 n2 n3 hf, if_pos g1, cl_some, c1_okk (by decide) (by decide), if_neg (by decide), isCell_eq n1 n2 n3 ht, if_pos g2, cl_some, c1_okk (by decide) (by decide), if_neg (by decide), c1_okk hs.1 hs.2, if_neg (by omega), c2_ok hs.1 hs.2 (by decide) (by decide), if_neg (by omega), c2_ok hm.1 hm.2 (by decide) (by decide), if_neg (by omega), c2_ok hm.1 hm.2 (by decide) (by decide), if_neg (by omega), c1_okk hh.1 hh.2, if_neg (by omega), c2_ok hh.1 hh.2 (by decide) (by decide), if_neg (by omega), c2_ok (by omega) (by omega) (by decide) (by decide), if_pos g6, p2, hC]
    · have e121 : C 121 = X 121 := c120 121 (by decide)
      unfold f_X12_tally
      rw [areCells_eq (by rw [e121]; exact n3) hf ht, e121, if_pos ⟨g1, g2⟩, cl_some, c1_okk (by decide) (by decide), if_neg (by decide), c1_okk hs.1 hs.2, isFrom_eq hsJ (by constructor <;> decide) (by constructor <;> decide), if_pos ⟨g3, g4⟩, cl_some, c1_okk (by decide) (by decide), if_neg (by decide), c1_okk hm.1 hm.2, isFrom_eq hmJ (by constructor <;> decide) (by constructor <;> decide), if_pos g5, cl_some, c1_okk (by decide) (by decide), if_neg (by decide), c2_ok (by omega) (by omega) (by decide) (by decide), if_neg (by omega), c1_okk hh.1 hh.2, if_neg (by omega), c2_ok hh.1 hh.2 (by decide) (by decide), if_pos g7.2, z1]
    · obtain ⟨s1, ⟨s2, s3⟩, s4, s5⟩ := h.1
      unfold RS
      rw [wr 0 (by decide), z0, z0, z0, c0, c0, c0, w120, w120, w120]
      simp [zc]
      exact ⟨⟨s2, s3⟩, s4, s5⟩
    · refine rz_play h.2 (fun i k q1 q2 a1 a2 a3 a4 a5 a6 a7 a8 a9 => ?_) ?_ ?_ ?_ ?_ ?_
      · have hzz : ¬ (i = 120 ∧ ((31 ≤ k ∧ k ≤ 34) ∨ (39 ≤ k ∧ k ≤ 49))) := fun hh => by
          unfold SCR at q1
          omega
        have hne : i ≠ 131 ∧ i ≠ 132 ∧ i ≠ 133 ∧ i ≠ 137 := by
          unfold SCR at q1
          omega
        have hi2 : i = 0 → k ≠ 16 := fun hi => by
          unfold ANS at q2
          omega
        have hcx : C i k = X i k := by
          by_cases g0 : i = 0
          · subst g0
            rw [c0 k, if_neg (hi2 rfl)]
          · rw [cr i g0]
            by_cases g42 : i = 42
            · subst g42
              by_cases k7 : k = 7
              · rw [k7, p5]
              · exact absurd (by unfold SCR; omega) q1
            · rw [p4 i (by unfold SCR at q1; omega)]
        by_cases g120 : i = 120
        · subst g120
          rw [w120, if_neg (by unfold ANS at q2; omega), z6 120 k (by decide) (by decide) (by decide) (by decide) (by decide) (by decide) (by decide) (by decide) hzz, hcx]
        · rw [wr i g120]
          by_cases g121 : i = 121
          · subst g121
            rw [z2]
          · rw [z6 i k g121 a4 hne.1 hne.2.1 hne.2.2.1 a5 hne.2.2.2 a6 hzz, hcx]
      · rw [wr 41 (by decide)]
        intro q hq
        rw [z6 41 q (by decide) (by decide) (by decide) (by decide) (by decide) (by decide) (by decide) (by decide) (by omega), cr 41 (by decide)]
        exact p3 q hq
      · rw [wr 130 (by decide)]
        exact z4
      · have zr : ∀ i : Int, i = 60 ∨ i = 139 → ms Z 120 2 0 i = X i := fun i hi => by
          rw [wr i (by omega)]
          funext k
          rw [z6 i k (by omega) (by omega) (by omega) (by omega) (by omega) (by omega) (by omega) (by omega) (by omega), c120 i (by omega)]
        exact hRQ.fr (by rw [wr 0 (by decide), z0, c0, if_neg (by decide)]) (by rw [w120, if_neg (by decide), zc 52 (by decide)]) (zr 60 (by omega)) (zr 139 (by omega))
      · intro o o0 o1
        have z58 : Z 58 o = X' 58 o := by rw [z6 58 o (by decide) (by decide) (by decide) (by decide) (by decide) (by decide) (by decide) (by decide) (by omega), cr 58 (by decide)]
        have h8 := p8 o o0 o1
        rw [wr 58 (by decide), wr 138 (by decide), z58, z3 o o0 o1]
        exact ⟨by omega, rfl⟩
      · have e : ∀ k : Int, k ≠ 2 → ms Z 120 2 0 120 k = Z 120 k := fun k a => by rw [w120, if_neg a]
        exact CK.fr (by rw [z2]; exact n3) z5 (e 22 (by decide)) (e 31 (by decide)) (e 32 (by decide)) (e 33 (by decide)) (e 34 (by decide)) (wr 134 (by decide)) (by rw [wr 121 (by decide)]; exact fun _ _ => rfl)
  · have e121 : ms X 0 16 1 121 = X 121 := s16 (by decide)
    refine out_st h (r := -1) (v := 1) (by decide) (by decide) inI_m1 ?_ ?_
    · have b63 : B_X11_tally_63 X = some (-1, ms X 0 16 1) := by rw [B_X11_tally_63, fail_eq, cl_some]
      unfold f_X11_tally
      rw [isCell_eq n1 n2 n3 hf, cl_some]
      by_cases g1 : 0 ≤ f ∧ f < X 121 0 * X 121 1
      · rw [if_pos g1, c1_okk (by decide) (by decide), if_neg (by decide), isCell_eq n1 n2 n3 ht, cl_some]
        by_cases g2 : 0 ≤ t ∧ t < X 121 0 * X 121 1
        · rw [if_pos g2, c1_okk (by decide) (by decide), if_neg (by decide), c1_okk hs.1 hs.2, b63, c2_ok hs.1 hs.2 (by decide) (by decide), c2_ok hm.1 hm.2 (by decide) (by decide), c2_ok hm.1 hm.2 (by decide) (by decide), c1_okk hh.1 hh.2, c2_ok hh.1 hh.2 (by decide) (by decide)]
          by_cases a1 : sd < 0
          · rw [if_pos a1]
          · rw [if_neg a1]
            by_cases a2 : 9999 < sd
            · rw [if_pos a2]
            · rw [if_neg a2]
              by_cases a3 : m < 1
              · rw [if_pos a3]
              · rw [if_neg a3]
                by_cases a4 : 30 < m
                · rw [if_pos a4]
                · rw [if_neg a4]
                  by_cases a5 : how < 0
                  · rw [if_pos a5]
                  · rw [if_neg a5]
                    by_cases a6 : 3 < how
                    · rw [if_pos a6]
                    · rw [if_neg a6, c2_ok (by omega) (by omega) (by decide) (by decide), if_neg (fun a7 => g ⟨⟨⟨g1, g2⟩, by omega, by omega⟩, ⟨by omega, by omega⟩, a7, by omega, by omega⟩)]
        · rw [if_neg g2, c1_okk (by decide) (by decide), if_pos rfl, b63]
      · rw [if_neg g1, c1_okk (by decide) (by decide), if_pos rfl, b63]
    · have b57 : B_X12_tally_57 (ms X 0 16 1) = some (-1, ms (ms X 0 16 1) 120 2 1) := by rw [B_X12_tally_57, refusem_eq, cl_some]
      unfold f_X12_tally
      rw [areCells_eq (by rw [e121]; exact n3) hf ht, e121, cl_some]
      by_cases g1 : (0 ≤ f ∧ f < X 121 0 * X 121 1) ∧ (0 ≤ t ∧ t < X 121 0 * X 121 1)
      · rw [if_pos g1, c1_okk (by decide) (by decide), if_neg (by decide), c1_okk hs.1 hs.2, isFrom_eq hsJ (by constructor <;> decide) (by constructor <;> decide), cl_some]
        by_cases a1 : 0 ≤ sd ∧ sd ≤ 9999
        · rw [if_pos a1, c1_okk (by decide) (by decide), if_neg (by decide), c1_okk hm.1 hm.2, isFrom_eq hmJ (by constructor <;> decide) (by constructor <;> decide), cl_some]
          by_cases a2 : 1 ≤ m ∧ m ≤ 30
          · rw [if_pos a2, c1_okk (by decide) (by decide), if_neg (by decide), c2_ok (by omega) (by omega) (by decide) (by decide)]
            by_cases a3 : 9999 < sd + m - 1
            · rw [if_pos a3, b57]
            · rw [if_neg a3, c1_okk hh.1 hh.2]
              by_cases a4 : how < 0
              · rw [if_pos a4, b57]
              · rw [if_neg a4, c2_ok hh.1 hh.2 (by decide) (by decide), if_neg (fun a5 => g ⟨⟨g1, a1⟩, a2, by omega, by omega, a5⟩), b57]
          · rw [if_neg a2, c1_okk (by decide) (by decide), if_pos rfl, b57]
        · rw [if_neg a1, c1_okk (by decide) (by decide), if_pos rfl, b57]
      · rw [if_neg g1, c1_okk (by decide) (by decide), if_pos rfl, b57]
