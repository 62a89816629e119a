/-! the reference's side of a play: what stays -/
theorem GZ.slot {Z0 Z Y : Mem} {cn : Int} {A s s' P P' T : Int → Int} (h : GZ Z0 cn A s P T Z) (e : ∀ i : Int, i ≠ 121 → i ≠ 130 → i ≠ 131 → Y i = Z i) (e130 : ∀ q : Int, 0 ≤ q → q < 32 → 0 ≤ Y 130 q ∧ Y 130 q ≤ 2000000000000) (eq : EQW (Z 121) (Y 121)) (b3 : 0 ≤ s' 14 ∧ s' 14 ≤ 5000) (b4 : 0 ≤ s' 10 ∧ s' 10 ≤ A 6) (hT : TH P' (Y 121)) (e3 : Y 121 3 = s' 14) (e4 : Y 121 4 = s' 10) (es : ∀ j : Int, j ≠ 14 → j ≠ 10 → s' j = s j) : GZ Z0 cn A s' P' T Y := by
  obtain ⟨h1, h2, ⟨h3, h4, h5⟩, h6, h7, h8, h9⟩ := h
  have hB : BD (Y 121) := h4.tx eq.v (by rw [e3]; exact b3) (by rw [e4, h3 6 (by decide) (by decide) (by decide)]; exact b4)
  refine ⟨?_, ⟨e3, e4⟩, ⟨fun k k3 k4 kk => by rw [eq k k3 k4 kk]; exact h3 k k3 k4 kk, hB, hT⟩, ?_, e130, ?_, fun i k a1 a2 a3 a4 a5 a6 a7 a8 => ?_⟩
  · rw [e 120 (by decide) (by decide) (by decide), es 11 (by decide) (by decide), es 4 (by decide) (by decide), es 0 (by decide) (by decide), es 2 (by decide) (by decide), es 3 (by decide) (by decide), es 5 (by decide) (by decide), es 13 (by decide) (by decide), es 12 (by decide) (by decide)]
    exact h1
  · rw [e 138 (by decide) (by decide) (by decide)]
    exact h6
  · exact CK.fr h4 h8 (by rw [e 120 (by decide) (by decide) (by decide)]) (by rw [e 120 (by decide) (by decide) (by decide)]) (by rw [e 120 (by decide) (by decide) (by decide)]) (by rw [e 120 (by decide) (by decide) (by decide)]) (by rw [e 120 (by decide) (by decide) (by decide)]) (e 134 (by decide) (by decide) (by decide)) eq.v.r
  · rw [e i a1 a2 a3]
    exact h9 i k a1 a2 a3 a4 a5 a6 a7 a8
theorem GZ.put {Z0 Z Y : Mem} {cn : Int} {A s s' P T : Int → Int} (h : GZ Z0 cn A s P T Z) (e : ∀ i : Int, i ≠ 120 → Y i = Z i) (ek : ∀ k : Int, k < 41 ∨ 49 < k → Y 120 k = Z 120 k) (e9 : s' 14 = s 14) (e10 : s' 10 = s 10) (hn : Y 120 41 = s' 11 ∧ Y 120 42 = s' 4 ∧ Y 120 43 = s' 0 ∧ Y 120 45 = s' 2 ∧ Y 120 46 = s' 3 ∧ Y 120 47 = s' 5 ∧ Y 120 44 = s' 13 ∧ Y 120 49 = s' 12) : GZ Z0 cn A s' P T Y := by
  obtain ⟨h1, h2, ⟨h3, h4, h5⟩, h6, h7, h8, h9⟩ := h
  unfold GZ
  rw [e 121 (by decide), e 138 (by decide), e 130 (by decide), e9, e10]
  refine ⟨hn, h2, ⟨h3, h4, h5⟩, h6, h7, ?_, fun i k a1 a2 a3 a4 a5 a6 a7 a8 => ?_⟩
  · exact CK.fr h4 h8 (ek 22 (by decide)) (ek 31 (by decide)) (ek 32 (by decide)) (ek 33 (by decide)) (ek 34 (by decide)) (e 134 (by decide)) (by rw [e 121 (by decide)]; exact fun k _ => rfl)
  · by_cases g : i = 120
    · subst g
      rw [ek k (by omega)]
      exact h9 120 k a1 a2 a3 a4 a5 a6 a7 a8
    · rw [e i g]
      exact h9 i k a1 a2 a3 a4 a5 a6 a7 a8
theorem GZ.one {Z0 Z : Mem} {cn k j v : Int} {A s P T : Int → Int} (h : GZ Z0 cn A s P T Z) (hk : (k = 41 ∧ j = 11) ∨ (k = 42 ∧ j = 4) ∨ (k = 43 ∧ j = 0) ∨ (k = 45 ∧ j = 2) ∨ (k = 46 ∧ j = 3) ∨ (k = 47 ∧ j = 5) ∨ (k = 44 ∧ j = 13) ∨ (k = 49 ∧ j = 12)) : GZ Z0 cn A (up s j v) P T (ms Z 120 k v) := by
  obtain ⟨z1, z2, z3, z4, z5, z6, z7, z8⟩ := h.1
  rcases hk with ⟨rfl, rfl⟩ | ⟨rfl, rfl⟩ | ⟨rfl, rfl⟩ | ⟨rfl, rfl⟩ | ⟨rfl, rfl⟩ | ⟨rfl, rfl⟩ | ⟨rfl, rfl⟩ | ⟨rfl, rfl⟩
  all_goals
    refine h.put (fun i hi => ms_ne hi) (fun k hk => by rw [ms_at, if_neg (by omega)]) (up_ne (by decide)) (up_ne (by decide)) ?_
    simp [ms_at, up_at, z1, z2, z3, z4, z5, z6, z7, z8]
theorem GZ.turn {Z0 Z : Mem} {cn o v : Int} {A s P T : Int → Int} (h : GZ Z0 cn A s P T Z) : GZ Z0 cn A s P (up T o v) (ms Z 138 o (max 0 (v - 1))) := by
  obtain ⟨h1, h2, ⟨h3, h4, h5⟩, h6, h7, h8, h9⟩ := h
  have e : ∀ i : Int, i ≠ 138 → ms Z 138 o (max 0 (v - 1)) i = Z i := fun i hi => ms_ne hi
  unfold GZ
  rw [e 120 (by decide), e 121 (by decide), e 130 (by decide)]
  refine ⟨h1, h2, ⟨h3, h4, h5⟩, fun q q0 q1 => ?_, h7, ?_, fun i k a1 a2 a3 a4 a5 a6 a7 a8 => ?_⟩
  · rw [ms_at, up_at]
    by_cases g : q = o
    · rw [if_pos ⟨rfl, g⟩, if_pos g]
    · rw [if_neg (fun x => g x.2), if_neg g]
      exact h6 q q0 q1
  · exact CK.fr h4 h8 (by rw [e 120 (by decide)]) (by rw [e 120 (by decide)]) (by rw [e 120 (by decide)]) (by rw [e 120 (by decide)]) (by rw [e 120 (by decide)]) (e 134 (by decide)) (by rw [e 121 (by decide)]; exact fun k _ => rfl)
  · rw [e i a7]
    exact h9 i k a1 a2 a3 a4 a5 a6 a7 a8
theorem GZ.look {Z0 Z Y : Mem} {cn : Int} {A s P T : Int → Int} (h : GZ Z0 cn A s P T Z) (e : ∀ i k : Int, ¬ (i = 120 ∧ 31 ≤ k ∧ k ≤ 34) → i ≠ 132 → i ≠ 133 → i ≠ 134 → Y i k = Z i k) (hC : CK cn Y) : GZ Z0 cn A s P T Y := by
  obtain ⟨h1, h2, h3, h6, h7, h8, h9⟩ := h
  have e2 : ∀ i : Int, i ≠ 120 → i ≠ 132 → i ≠ 133 → i ≠ 134 → Y i = Z i := fun i b1 b2 b3 b4 => funext fun k => e i k (by omega) b2 b3 b4
  have e3 : ∀ k : Int, 41 ≤ k → Y 120 k = Z 120 k := fun k hk => e 120 k (by omega) (by decide) (by decide) (by decide)
  unfold GZ
  rw [e2 121 (by decide) (by decide) (by decide) (by decide), e2 138 (by decide) (by decide) (by decide) (by decide), e2 130 (by decide) (by decide) (by decide) (by decide), e3 41 (by decide), e3 42 (by decide), e3 43 (by decide), e3 45 (by decide), e3 46 (by decide), e3 47 (by decide), e3 44 (by decide), e3 49 (by decide)]
  refine ⟨h1, h2, h3, h6, h7, hC, fun i k a1 a2 a3 a4 a5 a6 a7 a8 => ?_⟩
  rw [e i k (by omega) a4 a5 a6]
  exact h9 i k a1 a2 a3 a4 a5 a6 a7 a8
theorem GX.s {X0 X : Mem} {r u f t : Int} {s s' P T : Int → Int} (h : GX X0 r u f t s P T X) (e : ∀ j : Int, j ≠ 12 → j ≠ 13 → j ≠ 14 → s' j = s j) : GX X0 r u f t s' P T X := by
  obtain ⟨h1, h1b, h2, h3⟩ := h
  refine ⟨h1, ?_, fun k k0 k1 => ?_, h3⟩
  · rw [e 9 (by decide) (by decide) (by decide), e 10 (by decide) (by decide) (by decide), e 11 (by decide) (by decide) (by decide)]
    exact h1b
  · rw [e k (by omega) (by omega) (by omega)]
    exact h2 k k0 k1
theorem GZ.s {Z0 Z : Mem} {cn : Int} {A s s' P T : Int → Int} (h : GZ Z0 cn A s P T Z) (e : ∀ j : Int, j ≠ 1 → j ≠ 6 → j ≠ 9 → s' j = s j) : GZ Z0 cn A s' P T Z := by
  obtain ⟨h1, h2, h3⟩ := h
  have e2 := fun (j : Int) (a : j ≠ 1) (b : j ≠ 6) (c : j ≠ 9) => e j a b c
  refine ⟨?_, ?_, h3⟩
  · rw [e 11 (by decide) (by decide) (by decide), e 4 (by decide) (by decide) (by decide), e 0 (by decide) (by decide) (by decide), e 2 (by decide) (by decide) (by decide), e 3 (by decide) (by decide) (by decide), e 5 (by decide) (by decide) (by decide), e 13 (by decide) (by decide) (by decide), e 12 (by decide) (by decide) (by decide)]
    exact h1
  · rw [e 14 (by decide) (by decide) (by decide), e 10 (by decide) (by decide) (by decide)]
    exact h2
theorem GI.s {A s s' P : Int → Int} (h : GI A s P) (e : ∀ j : Int, j ≠ 0 → j ≠ 12 → j ≠ 13 → j ≠ 14 → s' j = s j) : GI A s' P := by
  unfold GI
  rw [e 1 (by decide) (by decide) (by decide) (by decide), e 2 (by decide) (by decide) (by decide) (by decide), e 9 (by decide) (by decide) (by decide) (by decide), e 3 (by decide) (by decide) (by decide) (by decide), e 10 (by decide) (by decide) (by decide) (by decide), e 4 (by decide) (by decide) (by decide) (by decide), e 5 (by decide) (by decide) (by decide) (by decide), e 6 (by decide) (by decide) (by decide) (by decide), e 11 (by decide) (by decide) (by decide) (by decide)]
  exact h
theorem GX.rv {X0 X : Mem} {r u f t : Int} {s P T A : Int → Int} (h : GX X0 r u f t s P T X) (hr : r ∈ RIV) (hR : RV X0 r A) : RV X r A := by
  obtain ⟨-, -, -, -, -, -, h6, -⟩ := h
  exact hR.fr2 hr fun i hi => h6 i (by omega)
theorem GX.r {X0 X : Mem} {r u f t : Int} {s P T : Int → Int} (h : GX X0 r u f t s P T X) : X 55 5 = r := h.1.1
theorem GI.seed {A s P : Int → Int} {v : Int} (h : GI A s P) (v0 : 0 ≤ v ∧ v < 65536) : GI A (up s 11 v) P := by
  unfold GI
  rw [up_ne (by decide), up_ne (by decide), up_ne (by decide), up_ne (by decide), up_ne (by decide), up_ne (by decide), up_ne (by decide), up_ne (by decide), up_same]
  obtain ⟨h1, h2, h3, h4, h5, h6, h7, h8⟩ := h
  exact ⟨h1, h2, h3, h4, h5, h6, v0, h8⟩
/-- a draw on both sides -/
theorem draw_both {X0 X : Mem} {r u f t n : Int} {A s P T : Int → Int} (h : GX X0 r u f t s P T X) (hI : GI A s P) (n0 : 1 ≤ n) (n1 : n ≤ 100000) :
    ∃ (d v : Int), f_X0_draw n X = some (d, ms X 55 11 v) ∧ (0 ≤ d ∧ d < n) ∧ GX X0 r u f t (up s 11 v) P T (ms X 55 11 v) ∧ GI A (up s 11 v) P ∧ ∀ (Z0 Z : Mem) (cn : Int), GZ Z0 cn A s P T Z → f_X12_draw n Z = some (d, ms Z 120 41 v) ∧ GZ Z0 cn A (up s 11 v) P T (ms Z 120 41 v) := by
  obtain ⟨s0, s1⟩ := hI.2.2.2.2.2.2.1
  obtain ⟨e1, e2, e3⟩ := draw_c (X := X) (v := s 11) (n := n) h.2.1.2.2 s0 s1 n0 n1
  refine ⟨_, nxs (s 11), e1, e2, h.seed, hI.seed e3, fun Z0 Z cn hZ => ⟨draw_z hZ.1.1 s0 s1 n0 n1, hZ.one (by decide)⟩⟩
