/-! back -/
theorem q_back : pair_45 REL := by
  intro cn X hcn h
  obtain ⟨hS, h1, h2, h3, h4, h5, h6, h7, h8, h9, h10, h11, h12, h13⟩ := h
  have hrel : REL cn X := ⟨hS, h1, h2, h3, h4, h5, h6, h7, h8, h9, h10, h11, h12, h13⟩
  obtain ⟨⟨c0, c1, c2⟩, hm⟩ := id h5
  have hp := h1.r
  have hriv := h1.riv
  have hrul := h1.rul
  show OUT cn f_X11_back f_X12_back X
  by_cases g : 0 < X 0 15
  · have hn : ∃ n : Int, n = X 0 15 := ⟨_, rfl⟩
    obtain ⟨n, hn⟩ := hn
    have hmk := h1.mk (j := n) (by omega) (by omega)
    obtain ⟨hm1, hm2⟩ := hm n (by omega) (by omega)
    have hr' : (53 + 17 * n) ∈ RIV ∧ (63 + 17 * n) ∈ RUL := by
      rcases (show n = 1 ∨ n = 2 ∨ n = 3 by omega) with e | e | e <;> rw [e] <;> decide
    have x1 : ∀ i : Int, i ≠ 0 → ms X 0 15 (n - 1) i = X i := fun i hi => ms_ne hi
    have hsep : (X 2 0 = 3 ∨ X 2 0 = 20) ∧ (X 2 1 = 13 ∨ X 2 1 = 30) := ⟨hp.1, hp.2.2.1⟩
    obtain ⟨Y, y1, y2, y3, y4⟩ := copyS (X := ms X 0 15 (n - 1)) (d := 2) (s := 52 + 17 * n) (rd := X 2 0) (rs := 53 + 17 * n) (ud := X 2 1) (us := 63 + 17 * n) (by rw [x1 2 (by decide)]) (by rw [x1 _ (by omega)]; exact hmk.1) (by rw [x1 2 (by decide)]) (by rw [x1 _ (by omega)]; exact hmk.2) hriv.1 hr'.1 hrul.1 hr'.2 (by omega) (by omega) (by omega) (by omega) (fun x hx => by omega) (fun i a b => by omega) (fun i a b => by omega) (fun i a b => by omega) (hm1.fr (x1 _ (by omega)) (fun i a b => x1 i (by omega)) (fun i a b => x1 i (by omega)) (x1 _ (by omega)))
    have yo : ∀ i : Int, i = 1 ∨ 35 ≤ i → Y i = X i := fun i hi => by rw [y4 i (by omega) (by omega) (by omega) (by omega), x1 i (by omega)]
    have yr : ∀ i : Int, X 0 3 ≤ i → i ≤ X 0 3 + 9 → Y i = X i := fun i a b => by
      have := h1.1
      have := h1.2.1
      rw [y4 i (by omega) (by omega) (by omega) (by omega), x1 i (by omega)]
    have y0 : Y 0 = ms X 0 15 (n - 1) 0 := y4 0 (by omega) (by omega) (by omega) (by omega)
    obtain ⟨Z, z1, z2, z3, z4, z5, z6⟩ := copies_eq (Z := ms Y 0 16 0) (x := n) (y := 0) (by omega) (by omega) (by omega)
    have ez120 : Z 120 = X 120 := by rw [z2 120 (by decide) (by decide), ms_ne (by decide), yo 120 (by omega)]
    have f1 : ∀ i : Int, i = 1 ∨ 35 ≤ i → i ≠ 120 → i ≠ 121 → i ≠ 122 → ms (ms (ms Z 120 53 (n - 1)) 120 22 (X 120 22 + 1)) 120 2 0 i = X i := fun i a b c d => by rw [ms_ne b, ms_ne b, ms_ne b, z2 i c d, ms_ne (by omega), yo i a]
    have fm : ∀ i : Int, 2 ≤ i → i ≤ 34 → ms (ms (ms Z 120 53 (n - 1)) 120 22 (X 120 22 + 1)) 120 2 0 i = Y i := fun i a b => by rw [ms_ne (by omega), ms_ne (by omega), ms_ne (by omega), z2 i (by omega) (by omega), ms_ne (by omega)]
    have f0 : ∀ k : Int, ms (ms (ms Z 120 53 (n - 1)) 120 22 (X 120 22 + 1)) 120 2 0 0 k = if k = 16 then 0 else if k = 15 then n - 1 else X 0 k := fun k => by
      rw [ms_ne (by decide), ms_ne (by decide), ms_ne (by decide), z2 0 (by decide) (by decide), ms_at, y0, ms_at]
      by_cases a : k = 16
      · rw [if_pos ⟨rfl, a⟩, if_pos a]
      · rw [if_neg (fun e => a e.2), if_neg a]
        by_cases b : k = 15
        · rw [if_pos ⟨rfl, b⟩, if_pos b]
        · rw [if_neg (fun e => b e.2), if_neg b]
    have f120 : ∀ k : Int, ms (ms (ms Z 120 53 (n - 1)) 120 22 (X 120 22 + 1)) 120 2 0 120 k = if k = 2 then 0 else if k = 22 then X 120 22 + 1 else if k = 53 then n - 1 else X 120 k := fun k => by
      rw [ms_at]
      by_cases a : k = 2
      · rw [if_pos ⟨rfl, a⟩, if_pos a]
      · rw [if_neg (fun e => a e.2), if_neg a, ms_at]
        by_cases c : k = 22
        · rw [if_pos ⟨rfl, c⟩, if_pos c]
        · rw [if_neg (fun e => c e.2), if_neg c, ms_at]
          by_cases b : k = 53
          · rw [if_pos ⟨rfl, b⟩, if_pos b]
          · rw [if_neg (fun e => b e.2), if_neg b, ez120]
    have f121 : ∀ k : Int, 440 ≤ k → ms (ms (ms Z 120 53 (n - 1)) 120 22 (X 120 22 + 1)) 120 2 0 121 k = X 121 k := fun k hk => by
      rw [ms_ne (by decide), ms_ne (by decide), ms_ne (by decide), z4 k (by omega), ms_ne (by decide), yo 121 (by omega)]
    have f121' : ∀ k : Int, 0 ≤ k → k < 440 → ms (ms (ms Z 120 53 (n - 1)) 120 22 (X 120 22 + 1)) 120 2 0 121 k = X 121 (440 * n + k) := fun k k0 k1 => by
      have := z3 k k0 k1
      rw [show 440 * 0 + k = k by omega] at this
      rw [ms_ne (by decide), ms_ne (by decide), ms_ne (by decide), this, ms_ne (by decide), yo 121 (by omega)]
    have f122 : ∀ k : Int, 5 ≤ k → ms (ms (ms Z 120 53 (n - 1)) 120 22 (X 120 22 + 1)) 120 2 0 122 k = X 122 k := fun k hk => by
      rw [ms_ne (by decide), ms_ne (by decide), ms_ne (by decide), z6 k (by omega), ms_ne (by decide), yo 122 (by omega)]
    have f122' : ∀ k : Int, 0 ≤ k → k < 5 → ms (ms (ms Z 120 53 (n - 1)) 120 22 (X 120 22 + 1)) 120 2 0 122 k = X 122 (5 * n + k) := fun k k0 k1 => by
      have := z5 k k0 k1
      rw [show 5 * 0 + k = k by omega] at this
      rw [ms_ne (by decide), ms_ne (by decide), ms_ne (by decide), this, ms_ne (by decide), yo 122 (by omega)]
    generalize hF : ms (ms (ms Z 120 53 (n - 1)) 120 22 (X 120 22 + 1)) 120 2 0 = F at *
    have g0 : ∀ k : Int, k ≠ 15 → k ≠ 16 → F 0 k = X 0 k := fun k a b => by rw [f0 k, if_neg b, if_neg a]
    have gm : ∀ k : Int, k ≠ 2 → k ≠ 53 → k ≠ 22 → F 120 k = X 120 k := fun k a b c => by rw [f120 k, if_neg a, if_neg c, if_neg b]
    have e2 : ∀ k : Int, k ≠ 3 → k ≠ 4 → F 2 k = X 2 k := fun k a b => by rw [fm 2 (by omega) (by omega), y3 k a b, x1 2 (by decide)]
    have pt : PT2 F := h1.fr (g0 3 (by decide) (by decide)) (g0 4 (by decide) (by decide)) (e2 0 (by decide) (by decide)) (e2 1 (by decide) (by decide)) (f1 69 (by omega) (by omega) (by omega) (by omega)) (f1 86 (by omega) (by omega) (by omega) (by omega)) (f1 103 (by omega) (by omega) (by omega) (by omega))
    refine ⟨n - 1, ms Y 0 16 0, F, ?_, ?_, inI_s (by omega) (by omega), ?_, ?_⟩
    · unfold f_X11_back
      rw [← hn, c1_okk (by omega) (by omega), if_pos (by omega), bd_eq, ms_at, if_pos ⟨rfl, rfl⟩, ax_ok (n := MST.length) (by omega) (by show n - 1 < 3; omega), (tl_MST (by omega) (by omega)).1, cm_ok (tl_MST (by omega) (by omega)).2, show 69 + 17 * (n - 1) = 52 + 17 * n by omega, y1, cl_some, answer_eq, cl_some, y0, ms_at, if_pos ⟨rfl, rfl⟩]
    · unfold f_X12_back
      have e22 : ms Z 120 53 (n - 1) 120 22 = X 120 22 := by rw [ms_at, if_neg (by decide), ez120]
      rw [ms_ne (by decide), yo 120 (by omega), c2, ← hn, c1_okk (by omega) (by omega), if_pos (by omega), z1, cl_some, bd_eq, ez120, c2, ← hn, bd_eq, e22, gives_eq, cl_some, hF, ms_at, if_neg (by decide), ms_at, if_pos ⟨rfl, rfl⟩]
    · unfold RS at *
      rw [f0 16, f0 17, f0 18, f120 2, f120 3, f120 4, if_pos rfl, if_pos rfl, if_neg (by decide), if_neg (by decide), if_neg (by decide), if_neg (by decide), if_neg (by decide), if_neg (by decide), if_neg (by decide), if_neg (by decide), if_neg (by decide), if_neg (by decide)]
      exact ⟨⟨by omega, by omega, rfl⟩, hS.2⟩
    · obtain ⟨k1, k2, k3⟩ := h13
      refine ⟨pt, ?_, ?_, ?_, ⟨⟨?_, ?_, ?_⟩, fun j j0 j1 => ?_⟩, ?_, ?_, ?_, ?_, ?_, ?_, ?_, ?_⟩
      · have hfr : SS F 2 (fun k => X 121 (440 * n + k)) (fun b => X 122 (5 * n + b)) := y2.fr (fm 2 (by omega) (by omega)) (fun i a b => fm i (by rw [y3 0 (by decide) (by decide), x1 2 (by decide)] at a; omega) (by rw [y3 0 (by decide) (by decide), x1 2 (by decide)] at b; omega)) (fun i a b => fm i (by rw [y3 1 (by decide) (by decide), x1 2 (by decide)] at a; omega) (by rw [y3 1 (by decide) (by decide), x1 2 (by decide)] at b; omega)) (fm _ (by omega) (by omega))
        exact hfr.ext (fun k k0 k1 => f121' k k0 k1) fun b b0 b1 => f122' b b0 b1
      · rw [f121' 3 (by omega) (by omega)]
        exact hm2
      · rw [g0 3 (by decide) (by decide)]
        refine h4.fr fun i a b => ?_
        rw [fm i (by omega) (by omega)]
        exact yr i a b
      · rw [f0 15, if_neg (by decide), if_pos rfl]; omega
      · rw [f0 15, if_neg (by decide), if_pos rfl]; omega
      · rw [f0 15, if_neg (by decide), if_pos rfl, f120 53, if_neg (by decide), if_neg (by decide), if_pos rfl]
      · rw [f0 15, if_neg (by decide), if_pos rfl] at j1
        obtain ⟨m1, m2⟩ := hm j j0 (by omega)
        have mk := h1.mk j0 (by omega)
        refine ⟨?_, ?_⟩
        · have hfr : SS F (52 + 17 * j) (fun k => X 121 (440 * j + k)) (fun b => X 122 (5 * j + b)) := m1.fr (f1 _ (by omega) (by omega) (by omega) (by omega)) (fun i a b => f1 i (by omega) (by omega) (by omega) (by omega)) (fun i a b => f1 i (by omega) (by omega) (by omega) (by omega)) (f1 _ (by omega) (by omega) (by omega) (by omega))
          exact hfr.ext (fun k k0 k1 => f121 _ (by omega)) fun b b0 b1 => f122 _ (by omega)
        · rw [f121 _ (by omega)]
          exact m2
      · exact h6.fr fun i hi => f1 i (by omega) (by omega) (by omega) (by omega)
      · exact h7.fr (by rw [f1 35 (by omega) (by omega) (by omega) (by omega)]) (gm 10 (by decide) (by decide) (by decide)) (f1 36 (by omega) (by omega) (by omega) (by omega)) (f1 126 (by omega) (by omega) (by omega) (by omega))
      · exact h8.fr (by rw [f1 35 (by omega) (by omega) (by omega) (by omega)]) (gm 16 (by decide) (by decide) (by decide)) (by rw [f1 35 (by omega) (by omega) (by omega) (by omega)]) (gm 17 (by decide) (by decide) (by decide))
      · exact h9.fr (by rw [f1 42 (by omega) (by omega) (by omega) (by omega)]) (gm 36 (by decide) (by decide) (by decide)) (f1 48 (by omega) (by omega) (by omega) (by omega)) (f1 135 (by omega) (by omega) (by omega) (by omega))
      · exact h10.fr (g0 14 (by decide) (by decide)) (gm 52 (by decide) (by decide) (by decide)) (f1 60 (by omega) (by omega) (by omega) (by omega)) (f1 139 (by omega) (by omega) (by omega) (by omega))
      · exact h11.fr (f1 41 (by omega) (by omega) (by omega) (by omega)) (f1 130 (by omega) (by omega) (by omega) (by omega))
      · have h12' : RTu (cn + 1) X := fun o o0 o1 => by
          have := h12 o o0 o1
          refine ⟨⟨?_, this.1.2⟩, this.2⟩
          have := this.1.1
          omega
        exact h12'.fr (f1 58 (by omega) (by omega) (by omega) (by omega)) (f1 138 (by omega) (by omega) (by omega) (by omega))
      · unfold CK
        rw [f120 22, if_neg (by decide), if_pos rfl, gm 31 (by decide) (by decide) (by decide), gm 32 (by decide) (by decide) (by decide), gm 33 (by decide) (by decide) (by decide), gm 34 (by decide) (by decide) (by decide)]
        refine ⟨⟨by omega, by omega⟩, ⟨k2.1, k2.2.1, k2.2.2.1, by omega, by omega⟩, fun e => by omega⟩
  · refine out_st hrel (r := -1) (v := 6) (by decide) (by decide) inI_m1 ?_ ?_
    · unfold f_X11_back
      rw [c1_okk (by omega) (by omega), if_neg g, fail_eq, cl_some]
    · unfold f_X12_back
      rw [s16 (by decide), c2, c1_okk (by omega) (by omega), if_neg (by omega), refusem_eq, cl_some]
