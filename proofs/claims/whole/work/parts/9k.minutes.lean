/-! ways told by the caller: minutes, struck, sure -/
def hdf (A : Int → Int) (c e : Int) : Nat → Int
  | 0 => -1
  | n + 1 => if ld A c (8 - ((n + 1 : Nat) : Int)) = e then 8 - ((n + 1 : Nat) : Int) else hdf A c e n
theorem hdf_r {A : Int → Int} {c e : Int} : ∀ n : Nat, n ≤ 8 → hdf A c e n = -1 ∨ (0 ≤ hdf A c e n ∧ hdf A c e n < 8)
  | 0, _ => Or.inl rfl
  | n + 1, h => by
    have ih := hdf_r (A := A) (c := c) (e := e) n (by omega)
    unfold hdf
    split
    · right
      omega
    · exact ih
def hdt (A : Int → Int) (c e : Int) : Int := hdf A c e 8
theorem hdt_r {A : Int → Int} {c e : Int} : hdt A c e = -1 ∨ (0 ≤ hdt A c e ∧ hdt A c e < 8) := hdf_r 8 (Nat.le_refl _)
theorem head_3 {X : Mem} {r c e : Int} {A : Int → Int} (hR : RV X r A) (hB : BD A) (c0 : 0 ≤ c) (c1 : c < A 0 * A 1) (e0 : 0 ≤ e) (e1 : e < A 0 * A 1) : ∀ n : Nat, n ≤ 8 → ∀ k : Nat, n < k → L_X2_headingTo_3 k r c e (8 - (n : Int)) X = some (hdf A c e n, X) := by
  have hc := BD_cells hB
  intro n
  induction n with
  | zero =>
    intro _ k hk
    obtain ⟨k, rfl⟩ : ∃ j : Nat, k = j + 1 := ⟨k - 1, by omega⟩
    rw [L_X2_headingTo_3, c2_ok (by omega) (by omega) (by decide) (by decide), if_pos (by omega)]
    rfl
  | succ n ih =>
    intro hn k hk
    obtain ⟨k, rfl⟩ : ∃ j : Nat, k = j + 1 := ⟨k - 1, by omega⟩
    have i1 := ih (by omega) k (by omega)
    have hl : ld A c (8 - ((n + 1 : Nat) : Int)) = -1 ∨ (0 ≤ ld A c (8 - ((n + 1 : Nat) : Int)) ∧ ld A c (8 - ((n + 1 : Nat) : Int)) < A 0 * A 1) := by
      by_cases g : ld A c (8 - ((n + 1 : Nat) : Int)) = -1
      · exact Or.inl g
      · exact Or.inr (ld_r hB g)
    rw [L_X2_headingTo_3, c2_ok (by omega) (by omega) (by decide) (by decide), if_neg (by omega), beside_eq hR hB c0 c1 (by omega) (by omega), cl_some, c2_ok (by omega) (by omega) (by decide) (by decide)]
    unfold hdf
    by_cases g : ld A c (8 - ((n + 1 : Nat) : Int)) = -1
    · rw [if_pos g, if_neg (by omega), B_X2_headingTo_36, show (8 - ((n + 1 : Nat) : Int)) + 1 = 8 - (n : Int) by omega, i1]
    · rw [if_neg g, c1_okk (by omega) (by omega), d2_ok (by omega) (by omega) (by omega) (by omega)]
      by_cases g2 : ld A c (8 - ((n + 1 : Nat) : Int)) = e
      · rw [if_pos g2, if_neg (by simpa using g2)]
      · rw [if_neg g2, if_pos g2, B_X2_headingTo_36, show (8 - ((n + 1 : Nat) : Int)) + 1 = 8 - (n : Int) by omega, i1]
theorem head_eq {X : Mem} {r c e : Int} {A : Int → Int} (hR : RV X r A) (hB : BD A) (c0 : 0 ≤ c) (c1 : c < A 0 * A 1) (e0 : 0 ≤ e) (e1 : e < A 0 * A 1) : f_X2_headingTo r c e X = some (hdt A c e, X) :=
  head_3 hR hB c0 c1 e0 e1 8 (Nat.le_refl _) KF (by rw [KF_eq]; omega)
theorem headm_2 {X : Mem} {c e : Int} (hB : BD (X 121)) (c0 : 0 ≤ c) (c1 : c < X 121 0 * X 121 1) (e0 : 0 ≤ e) (e1 : e < X 121 0 * X 121 1) : ∀ n : Nat, n ≤ 8 → ∀ k : Nat, n < k → L_X12_headingTo_2 k c e (8 - (n : Int)) X = some (hdf (X 121) c e n, X) := by
  have hc := BD_cells hB
  intro n
  induction n with
  | zero =>
    intro _ k hk
    obtain ⟨k, rfl⟩ : ∃ j : Nat, k = j + 1 := ⟨k - 1, by omega⟩
    rw [L_X12_headingTo_2, c2_ok (by omega) (by omega) (by decide) (by decide), if_pos (by omega)]
    rfl
  | succ n ih =>
    intro hn k hk
    obtain ⟨k, rfl⟩ : ∃ j : Nat, k = j + 1 := ⟨k - 1, by omega⟩
    have i1 := ih (by omega) k (by omega)
    have hl : ld (X 121) c (8 - ((n + 1 : Nat) : Int)) = -1 ∨ (0 ≤ ld (X 121) c (8 - ((n + 1 : Nat) : Int)) ∧ ld (X 121) c (8 - ((n + 1 : Nat) : Int)) < X 121 0 * X 121 1) := by
      by_cases g : ld (X 121) c (8 - ((n + 1 : Nat) : Int)) = -1
      · exact Or.inl g
      · exact Or.inr (ld_r hB g)
    rw [L_X12_headingTo_2, c2_ok (by omega) (by omega) (by decide) (by decide), if_neg (by omega), leads_eq hB c0 c1 (by omega) (by omega), cl_some, c2_ok (by omega) (by omega) (by omega) (by omega)]
    unfold hdf
    by_cases g2 : ld (X 121) c (8 - ((n + 1 : Nat) : Int)) = e
    · rw [if_pos g2, if_neg (by simpa using g2)]
    · rw [if_neg g2, if_pos g2, show (8 - ((n + 1 : Nat) : Int)) + 1 = 8 - (n : Int) by omega, i1]
theorem headm_eq {X : Mem} {c e : Int} (hB : BD (X 121)) (c0 : 0 ≤ c) (c1 : c < X 121 0 * X 121 1) (e0 : 0 ≤ e) (e1 : e < X 121 0 * X 121 1) : f_X12_headingTo c e X = some (hdt (X 121) c e, X) :=
  headm_2 hB c0 c1 e0 e1 8 (Nat.le_refl _) KF (by rw [KF_eq]; omega)
/-- the first n of T are a way -/
def WOK (A T : Int → Int) (n : Int) : Prop := (∀ i : Int, 0 ≤ i → i < n → 0 ≤ T i ∧ T i < A 0 * A 1) ∧ ∀ i : Int, 1 ≤ i → i < n → hdt A (T (i - 1)) (T i) ≠ -1
theorem WOK.step {A T : Int → Int} {i : Int} (h : WOK A T i) (h1 : 0 ≤ T i ∧ T i < A 0 * A 1) (h2 : 1 ≤ i → hdt A (T (i - 1)) (T i) ≠ -1) : WOK A T (i + 1) := by
  refine ⟨fun j j0 j1 => ?_, fun j j0 j1 => ?_⟩
  · by_cases e : j = i
    · rw [e]; exact h1
    · exact h.1 j j0 (by omega)
  · by_cases e : j = i
    · rw [e]; exact h2 (by omega)
    · exact h.2 j j0 (by omega)
theorem way_st {X Z : Mem} {r t b n : Int} {A T : Int → Int} (hR : RV X r A) (hB : BD A) (hT : X t = T) (hZ : Z 121 = A) (n1 : n ≤ 40) (b0 : 0 ≤ b) (b1 : b ≤ 180) (hTJ : ∀ j : Int, 0 ≤ j → j < n → inJ (T j)) (hZT : ∀ j : Int, 0 ≤ j → j < n → Z 125 (b + j) = T j) : ∀ (k : Nat) (i : Int), 0 ≤ i → i ≤ n → (n - i).toNat < k → WOK A T i →
    (L_X2_isWay_2 k r t n i X = some (1, X) ∧ L_X12_wrongWay_52 k n b i Z = some (0, Z) ∧ WOK A T n) ∨ (L_X2_isWay_2 k r t n i X = some (0, X) ∧ L_X12_wrongWay_52 k n b i Z = some (5, Z)) := by
  have hc := BD_cells hB
  intro k
  induction k with
  | zero => intro i _ _ h; omega
  | succ k ih =>
    intro i i0 i1 hk hW
    obtain ⟨oC, eC⟩ : ∃ o, L_X2_isWay_2 (k + 1) r t n i X = o := ⟨_, rfl⟩
    obtain ⟨oM, eM⟩ : ∃ o, L_X12_wrongWay_52 (k + 1) n b i Z = o := ⟨_, rfl⟩
    rw [eC, eM]
    rw [L_X2_isWay_2, c2_ok (by omega) (by omega) (by omega) (by omega)] at eC
    rw [L_X12_wrongWay_52, c2_ok (by omega) (by omega) (by omega) (by omega)] at eM
    by_cases g : n ≤ i
    · rw [← eC, ← eM, if_pos g, if_pos g]
      exact Or.inl ⟨rfl, rfl, by rw [show n = i by omega]; exact hW⟩
    · have hj := hTJ i i0 (by omega)
      have e0 := hj.1
      have e1 := hj.2
      rw [if_neg g, ax_ok (by omega) (by omega), hT, d2_ok e0 e1 (by decide) (by decide)] at eC
      rw [if_neg g, ax_ok (by omega) (by omega), hZT i i0 (by omega), isCellm_eq (by rw [hZ]; exact hB) hj, hZ, cl_some] at eM
      by_cases g1 : T i < 0
      · right
        refine ⟨by rw [← eC, if_pos g1], ?_⟩
        rw [← eM, if_neg (by omega), c1_okk (by decide) (by decide), if_neg (by decide)]
      · rw [if_neg g1, ax_ok (by omega) (by omega), show f_X2_cellCount r X = some (X r 0 * X r 1, X) from rfl, cl_some, hR.1.1, hR.1.2.1, c1_okk (by omega) (by omega), d2_ok (by omega) (by omega) (by omega) (by omega)] at eC
        by_cases g2 : T i < A 0 * A 1
        · have hTi : 0 ≤ T i ∧ T i < A 0 * A 1 := ⟨by omega, g2⟩
          rw [if_pos g2, c1_okk (by omega) (by omega)] at eC
          rw [if_pos hTi, c1_okk (by decide) (by decide), if_pos (by decide), c1_okk (by omega) (by omega)] at eM
          by_cases g3 : i ≤ 0
          · rw [← eC, ← eM, if_pos g3, if_pos g3, B_X2_isWay_52, B_X12_wrongWay_113]
            exact ih (i + 1) (by omega) (by omega) (by omega) (hW.step hTi (fun e => by omega))
          · have hp := hW.1 (i - 1) (by omega) (by omega)
            have hh := hdt_r (A := A) (c := T (i - 1)) (e := T i)
            rw [if_neg g3, ax_ok (by omega) (by omega), ax_ok (by omega) (by omega), hT, head_eq hR hB hp.1 hp.2 hTi.1 hTi.2, cl_some, c2_ok (by omega) (by omega) (by decide) (by decide)] at eC
            rw [if_neg g3, ax_ok (by omega) (by omega), ax_ok (by omega) (by omega), show b + i - 1 = b + (i - 1) by omega, hZT (i - 1) (by omega) (by omega), hZT i i0 (by omega), headm_eq (by rw [hZ]; exact hB) hp.1 (by rw [hZ]; exact hp.2) hTi.1 (by rw [hZ]; exact hTi.2), cl_some, hZ, c2_ok (by omega) (by omega) (by decide) (by decide)] at eM
            by_cases g4 : hdt A (T (i - 1)) (T i) = -1
            · rw [← eC, ← eM, if_neg (by simpa using g4), if_neg (by simpa using g4)]
              exact Or.inr ⟨rfl, rfl⟩
            · rw [← eC, ← eM, if_pos g4, if_pos g4, B_X2_isWay_52, B_X12_wrongWay_113]
              exact ih (i + 1) (by omega) (by omega) (by omega) (hW.step hTi (fun _ => g4))
        · right
          refine ⟨by rw [← eC, if_neg g2], ?_⟩
          rw [← eM, if_neg (by omega), c1_okk (by decide) (by decide), if_neg (by decide)]
/-- a tray's way, told alike by both -/
def WAYOF (X : Mem) (p n : Int) : Prop := (0 ≤ p ∧ p < 4) ∧ (1 ≤ n ∧ n ≤ 40) ∧ n ≤ X 124 p ∧ WOK (X 121) (X (62 + 2 * p)) n ∧ (∀ j : Int, 0 ≤ j → j < n → inJ (X (62 + 2 * p) j) ∧ X 125 (60 * p + j) = X (62 + 2 * p) j)
theorem RZ.trays {cn : Int} {X : Mem} (h : RZ cn X) : RT X := by
  obtain ⟨-, -, -, -, -, hT, -⟩ := h
  exact hT
theorem wayst_eq {cn : Int} {X : Mem} {p n x : Int} (h : REL cn X) (hp : inI p) (hn : inI n) (hx : 0 ≤ x ∧ x < NS (X 121)) :
    ∃ s : Int, (s = 0 ∨ s = 1 ∨ s = 2 ∨ s = 3 ∨ s = 5) ∧ f_X11_wayStatus p n x X = some (s, X) ∧ (∀ Z : Mem, Z 121 = X 121 → Z 124 = X 124 → Z 125 = X 125 → f_X12_wrongWay p n Z = some (s, Z)) ∧ (s = 0 → WAYOF X p n) := by
  obtain ⟨n1, n2, n3, n4, n5, n6⟩ := h.now
  have hN := NS_r n3.2.1
  have hT := h.2.trays
  have hxI : inI x := inI_s (by omega) (by omega)
  unfold f_X11_wayStatus
  rw [isTray_eq hp, cl_some]
  have eZ : ∀ Z : Mem, f_X12_wrongWay p n Z = _ := fun Z => by unfold f_X12_wrongWay; rw [isTray_eqm hp, cl_some]
  by_cases g1 : 0 ≤ p ∧ p < 4
  · rw [if_pos g1, c1_okk (by decide) (by decide), if_neg (by decide), c2_ok hn.1 hn.2 (by decide) (by decide)]
    have eZ : ∀ Z : Mem, f_X12_wrongWay p n Z = _ := fun Z => by rw [eZ, if_pos g1, c1_okk (by decide) (by decide), if_neg (by decide), c2_ok hn.1 hn.2 (by decide) (by decide), c2_ok hn.1 hn.2 (by decide) (by decide)]
    by_cases g2 : n < 1
    · refine ⟨1, Or.inr (Or.inl rfl), by rw [if_pos g2], fun Z _ _ _ => by rw [eZ, if_pos g2], fun e => by omega⟩
    · rw [if_neg g2, c2_ok hn.1 hn.2 (by decide) (by decide)]
      by_cases g3 : 40 < n
      · refine ⟨1, Or.inr (Or.inl rfl), by rw [if_pos g3], fun Z _ _ _ => by rw [eZ, if_neg g2, if_neg (by omega)], fun e => by omega⟩
      · rw [if_neg g3, isSet_eq n1 n2 n3 hxI, if_pos hx, cl_some, c1_okk (by decide) (by decide), if_pos (by decide), ax_ok (n := TRA.length) g1.1 g1.2, (TRA_at g1.1 g1.2).1, cm_ok (TRA_at g1.1 g1.2).2]
        have eZ : ∀ Z : Mem, f_X12_wrongWay p n Z = _ := fun Z => by rw [eZ, if_neg g2, if_pos (by omega), ax_ok g1.1 g1.2]
        rcases hT p g1.1 g1.2 with ⟨t1, t2⟩ | ⟨t1, t2, t3, t4, t5, t6, t7⟩
        · refine ⟨2, Or.inr (Or.inr (Or.inl rfl)), ?_, fun Z _ z2 _ => ?_, fun e => by omega⟩
          · unfold f_X10_isMissing
            rw [t1, c2_ok (by decide) (by decide) (by decide) (by decide), if_neg (by decide), cl_some, c1_okk (by decide) (by decide), if_neg (by decide)]
          · rw [eZ, z2, t2, c2_ok (by decide) (by decide) (by decide) (by decide), if_neg (by decide)]
        · have e1 : f_X10_isMissing (61 + 2 * p) X = some (0, X) := by
            unfold f_X10_isMissing
            rw [c2_ok (by omega) (by omega) (by decide) (by decide), if_pos (by omega)]
          have e2 : f_X10_holds (61 + 2 * p) 0 n X = some (if X 124 p < n then 0 else 1, X) := by
            unfold f_X10_holds
            rw [t6, c2_ok (by decide) (by decide) (by omega) (by omega), if_neg (by omega), Int.sub_zero, c2_ok hn.1 hn.2 (by omega) (by omega)]
            split <;> rfl
          rw [e1, cl_some, c1_okk (by decide) (by decide), if_pos rfl, ax_ok (n := TRA.length) g1.1 g1.2, cm_ok (TRA_at g1.1 g1.2).2, e2, cl_some]
          by_cases g4 : X 124 p < n
          · refine ⟨3, Or.inr (Or.inr (Or.inr (Or.inl rfl))), ?_, fun Z _ z2 _ => ?_, fun e => by omega⟩
            · rw [if_pos g4, c1_okk (by decide) (by decide), if_neg (by decide)]
            · rw [eZ, z2, c2_ok (by omega) (by omega) (by decide) (by decide), if_pos (by omega), ax_ok g1.1 g1.2, c2_ok (by omega) (by omega) hn.1 hn.2, if_neg (by omega)]
          · rw [if_neg g4, c1_okk (by decide) (by decide), if_pos (by decide), cm_ok n1, ax_ok (n := TRA.length) g1.1 g1.2, cm_ok (TRA_at g1.1 g1.2).2]
            have eZ : ∀ Z : Mem, Z 124 = X 124 → f_X12_wrongWay p n Z = L_X12_wrongWay_52 KF n (60 * p) 0 Z := fun Z z2 => by
              rw [eZ, z2, c2_ok (by omega) (by omega) (by decide) (by decide), if_pos (by omega), ax_ok g1.1 g1.2, c2_ok (by omega) (by omega) hn.1 hn.2, if_pos (by omega), bd_eq]
            have hw : ∀ Z : Mem, Z 121 = X 121 → Z 125 = X 125 → _ := fun Z z1 z3 => way_st (X := X) (Z := Z) (r := X 2 0) (t := 62 + 2 * p) (b := 60 * p) (n := n) (A := X 121) (T := X (62 + 2 * p)) n2 n3 rfl z1 (by omega) (by omega) (by omega) (fun j j0 j1 => (t7 j j0 (by omega)).1) (fun j j0 j1 => by rw [z3]; exact (t7 j j0 (by omega)).2) KF 0 (by omega) (by omega) (by rw [KF_eq]; omega) ⟨fun i _ _ => by omega, fun i _ _ => by omega⟩
            have e3 : f_X2_isWay (X 2 0) (61 + 2 * p + 1) n X = L_X2_isWay_2 KF (X 2 0) (62 + 2 * p) n 0 X := by
              unfold f_X2_isWay
              rw [show 61 + 2 * p + 1 = 62 + 2 * p by omega]
            rw [e3]
            rcases hw X rfl rfl with ⟨w1, w2, w3⟩ | ⟨w1, w2⟩
            · refine ⟨0, Or.inl rfl, by rw [w1, cl_some, c1_okk (by decide) (by decide), if_neg (by decide)], fun Z z1 z2 z3 => ?_, fun _ => ⟨g1, ⟨by omega, by omega⟩, by omega, w3, fun j j0 j1 => t7 j j0 (by omega)⟩⟩
              rw [eZ Z z2]
              rcases hw Z z1 z3 with ⟨v1, v2, -⟩ | ⟨v1, v2⟩
              · exact v2
              · rw [w1] at v1
                exact absurd v1 (by simp)
            · refine ⟨5, Or.inr (Or.inr (Or.inr (Or.inr rfl))), by rw [w1, cl_some, c1_okk (by decide) (by decide), if_pos rfl], fun Z z1 z2 z3 => ?_, fun e => by omega⟩
              rw [eZ Z z2]
              rcases hw Z z1 z3 with ⟨v1, v2, -⟩ | ⟨v1, v2⟩
              · rw [w1] at v1
                exact absurd v1 (by simp)
              · exact v2
  · refine ⟨1, Or.inr (Or.inl rfl), by rw [if_neg g1, c1_okk (by decide) (by decide), if_pos rfl], fun Z _ _ _ => by rw [eZ, if_neg g1, c1_okk (by decide) (by decide), if_pos rfl], fun e => by omega⟩
theorem min_8 {X Z : Mem} {r t b n : Int} {A T : Int → Int} (hR : RV X r A) (hB : BD A) (hT : X t = T) (hZ : Z 121 = A) (n1 : n ≤ 40) (b0 : 0 ≤ b) (b1 : b ≤ 180) (hZT : ∀ j : Int, 0 ≤ j → j < n → Z 125 (b + j) = T j) (hW : WOK A T n) : ∀ (k : Nat) (i v pc pr : Int), 1 ≤ i → i ≤ n → (n - i).toNat < k → (0 ≤ v ∧ v ≤ 495 * i) → ((pc = -1 ∧ pr = 8) ∨ (pc = pr ∧ 0 ≤ pc ∧ pc < 8)) →
    ∃ m : Int, L_X2_minutesAlong_8 k r t n v pc i X = some (m, X) ∧ L_X12_minutes_33 k n b v pr i Z = some (m, ms Z 120 2 0) ∧ 0 ≤ m ∧ m ≤ 20000 := by
  intro k
  induction k with
  | zero => intro i _ _ _ _ _ h; omega
  | succ k ih =>
    intro i v pc pr i0 i1 hk hv hp
    rw [L_X2_minutesAlong_8, L_X12_minutes_33, c2_ok (by omega) (by omega) (by omega) (by omega), c2_ok (by omega) (by omega) (by omega) (by omega)]
    by_cases g : n ≤ i
    · rw [if_pos g, if_pos g, B_X12_minutes_92, gives_eq, cl_some]
      exact ⟨v, rfl, rfl, hv.1, by omega⟩
    · have q1 := hW.1 (i - 1) (by omega) (by omega)
      have q2 := hW.1 i (by omega) (by omega)
      have q3 := hW.2 i (by omega) (by omega)
      have hh := hdt_r (A := A) (c := T (i - 1)) (e := T i)
      have s1 := stp_r hB (g := hdt A (T (i - 1)) (T i))
      have hpr : 0 ≤ pr ∧ pr < 9 := by omega
      have s2 := trn_r hB hpr.1 hpr.2 (g := hdt A (T (i - 1)) (T i)) (by omega) (by omega)
      have e1 : f_X2_turnMinutes r pc (hdt A (T (i - 1)) (T i)) X = some (trn A pr (hdt A (T (i - 1)) (T i)), X) := by
        rcases hp with ⟨p1, p2⟩ | ⟨p1, p2, p3⟩
        · rw [p1, p2]
          exact turnc_m1
        · rw [← p1]
          exact turnc_eq hR p2 p3 (by omega) (by omega)
      rw [if_neg g, if_neg g, ax_ok (n := 60) (by omega) (by omega), ax_ok (n := 60) (by omega) (by omega), hT, head_eq hR hB q1.1 q1.2 q2.1 q2.2, cl_some, stepc_eq hR (by omega) (by omega), cl_some, e1, cl_some, bd_eq, ax_ok (n := 240) (by omega) (by omega), ax_ok (n := 240) (by omega) (by omega), show b + i - 1 = b + (i - 1) by omega, hZT (i - 1) (by omega) (by omega), hZT i (by omega) (by omega), headm_eq (by rw [hZ]; exact hB) q1.1 (by rw [hZ]; exact q1.2) q2.1 (by rw [hZ]; exact q2.2), cl_some, hZ, stepm_eq (by rw [hZ]; exact hB) hpr.1 hpr.2 (by omega) (by omega), cl_some, hZ, bd_eq]
      exact ih (i + 1) _ _ _ (by omega) (by omega) (by omega) (by omega) (Or.inr ⟨rfl, by omega, by omega⟩)
theorem q_minutes : pair_25 REL := by
  intro p n hp hn cn X hcn h
  obtain ⟨n1, n2, n3, n4, n5, n6⟩ := h.now
  have hN := NS_r n3.2.1
  obtain ⟨s, hs, w1, w2, w3⟩ := wayst_eq h hp hn (x := 0) ⟨by decide, by omega⟩
  show OUT cn (f_X11_minutes p n) (f_X12_minutes p n) X
  by_cases g : s = 0
  · obtain ⟨g1, g2, g3, g4, g5⟩ := w3 g
    obtain ⟨m, m1, m2, m3, m4⟩ := min_8 (X := X) (Z := ms X 0 16 0) (r := X 2 0) (t := 62 + 2 * p) (b := 60 * p) (n := n) n2 n3 rfl (s16 (by decide)) (by omega) (by omega) (by omega) (fun j j0 j1 => by rw [s16 (by decide)]; exact (g5 j j0 j1).2) g4 KF 1 0 (-1) 8 (by omega) (by omega) (by rw [KF_eq]; omega) ⟨by omega, by omega⟩ (Or.inl ⟨rfl, rfl⟩)
    refine out_st h (r := m) (v := 0) (by decide) (by decide) (inI_s (by omega) (by omega)) ?_ ?_
    · unfold f_X11_minutes f_X2_minutesAlong
      rw [w1, cl_some, g, c1_okk (by decide) (by decide), if_pos rfl, cm_ok n1, ax_ok (n := TRA.length) g1.1 g1.2, (TRA_at g1.1 g1.2).1, cm_ok (TRA_at g1.1 g1.2).2, show 61 + 2 * p + 1 = 62 + 2 * p by omega, m1, cl_some, answer_eq, cl_some]
    · unfold f_X12_minutes
      rw [w2 _ (s16 (by decide)) (s16 (by decide)) (s16 (by decide)), cl_some, g, c1_okk (by decide) (by decide), if_pos (by decide), bd_eq, m2]
  · refine out_st h (r := -1) (v := s) (by omega) (by omega) inI_m1 ?_ ?_
    · unfold f_X11_minutes
      rw [w1, cl_some, c1_okk (by omega) (by omega), if_neg g, fail_eq, cl_some]
    · unfold f_X12_minutes
      rw [w2 _ (s16 (by decide)) (s16 (by decide)) (s16 (by decide)), cl_some, c1_okk (by omega) (by omega), if_neg (by omega), refusem_eq, cl_some]
/-- the first struck place of a way -/
theorem strk_3 {X Z : Mem} {r t p n x : Int} {A T : Int → Int} (hG : GL A (ND A) r X) (hB : BD A) (hT : X t = T) (hZ : Z 121 = A) (n1 : n ≤ 40) (p0 : 0 ≤ p) (p1 : p < 4) (hZT : ∀ j : Int, 0 ≤ j → j < n → Z 125 (60 * p + j) = T j) (hW : ∀ i : Int, 0 ≤ i → i < n → 0 ≤ T i ∧ T i < A 0 * A 1) : ∀ (k : Nat) (i : Int), 0 ≤ i → i ≤ n → (n - i).toNat < k →
    ∃ m : Int, L_X1_firstStruck_3 k t n x i X = some (m, X) ∧ L_X12_struckAt_3 k p n x i Z = some (m, Z) ∧ -1 ≤ m ∧ m < 60 := by
  obtain ⟨hr, hR, e11, ⟨st, need, e12, e13, hs, hn, hnd⟩, -, -⟩ := hG
  have hc := BD_cells hB
  have hDD := hB.2.2.2.2.2.2.2.2.2.2.2.2.2.2.2.2.1
  have hTK : ∀ c : Int, 0 ≤ c → c < 60 → 0 ≤ tk A c x ∧ tk A c x ≤ 16 := fun c c0 c1 => by
    unfold tk
    have h1 := hB.2.2.2.2.2.2.2.2.2.2.2.2.2.2.2.1
    have h2 := hB.2.2.2.2.2.2.2.2.2.2.2.2.2.2.2.2.2 c c0 c1
    have h3 := hB.2.1
    split
    · exact ⟨by decide, by decide⟩
    · split
      · exact h1 _ (by omega) (by omega)
      · exact ⟨by decide, by decide⟩
  intro k
  induction k with
  | zero => intro i _ _ h; omega
  | succ k ih =>
    intro i i0 i1 hk
    rw [L_X1_firstStruck_3, L_X12_struckAt_3, c2_ok (by omega) (by omega) (by omega) (by omega), c2_ok (by omega) (by omega) (by omega) (by omega)]
    by_cases g : n ≤ i
    · rw [if_pos g, if_pos g]
      exact ⟨-1, rfl, rfl, by decide, by decide⟩
    · have q1 := hW i i0 (by omega)
      have q2 := hDD (T i) q1.1 (by omega)
      have q3 := hTK (T i) q1.1 (by omega)
      rw [if_neg g, if_neg g, e11, cm_ok hr, ax_ok (n := 60) (by omega) (by omega), hT, e12, depthAt_eq hR hB q1.1 (by omega), cl_some, e13, ax_ok (n := 240) (by omega) (by omega), hZT i i0 (by omega), passes_eq (by rw [hZ]; exact hB) q1.1 (by omega), cl_some, hZ]
      unfold dep
      rw [c2_ok (by omega) (by omega) (by omega) (by omega)]
      by_cases g2 : need ≤ A (48 + T i) + st - tk A (T i) x
      · rw [if_pos g2, if_pos (show ND A ≤ _ by omega), c1_okk (by decide) (by decide), if_pos (by decide)]
        exact ih (i + 1) (by omega) (by omega) (by omega)
      · rw [if_neg g2, if_neg (show ¬ ND A ≤ _ by omega), c1_okk (by decide) (by decide), if_neg (by decide)]
        exact ⟨i, rfl, rfl, by omega, by omega⟩
/-- the look at the river as it is -/
theorem REL.look {cn : Int} {X : Mem} (h : REL cn X) : ∃ Y : Mem, f_X1_look (X 2 0) (X 2 3) (X 2 4) X = some (0, Y) ∧ (∀ i k : Int, ¬ SCR i k → Y i k = X i k) ∧ (∀ i : Int, i ≠ 42 → i ≠ 46 → Y i = X i) ∧ GL (X 121) (ND (X 121)) (X 2 0) Y := by
  obtain ⟨n1, n2, n3, n4, n5, n6⟩ := h.now
  have b := n3
  obtain ⟨-, -, b3, b4, -, b6, -⟩ := b
  obtain ⟨Y, y1, y2, y3, y4⟩ := look_eq (X := X) (d := X 2 3) (f := X 2 4) n1 n2 n3 (by omega) (by omega)
  refine ⟨Y, y1, fun i k q => ?_, y2, ?_⟩
  · by_cases e : i = 42
    · subst e
      refine y3 k ?_ ?_ ?_ ?_ ?_ ?_ <;> (unfold SCR at q; omega)
    · rw [y2 i e (by unfold SCR at q; omega)]
  · rw [n4, n5] at y4
    exact y4
theorem q_struck : pair_26 REL := by
  intro p n x hp hn hx cn X hcn h
  obtain ⟨n1, n2, n3, n4, n5, n6⟩ := h.now
  have hN := NS_r n3.2.1
  have eM : ∀ v : Int, ms X 0 16 v 121 = X 121 := fun v => s16 (by decide)
  show OUT cn (f_X11_struck p n x) (f_X12_struck p n x) X
  by_cases gx : 0 ≤ x ∧ x < NS (X 121)
  · obtain ⟨s, hs, w1, w2, w3⟩ := wayst_eq h hp hn gx
    by_cases g : s = 0
    · obtain ⟨g1, g2, g3, g4, g5⟩ := w3 g
      obtain ⟨Y, y1, y2, y3, y4⟩ := h.look
      have hT : Y (62 + 2 * p) = X (62 + 2 * p) := y3 _ (by omega) (by omega)
      have hst : ∀ Z : Mem, Z 121 = X 121 → Z 125 = X 125 → _ := fun Z z1 z3 => strk_3 (X := Y) (Z := Z) (t := 62 + 2 * p) (p := p) (n := n) (x := x) y4 n3 hT z1 (by omega) g1.1 g1.2 (fun j j0 j1 => by rw [z3]; exact (g5 j j0 j1).2) g4.1 KF 0 (by omega) (by omega) (by rw [KF_eq]; omega)
      have eC : ∀ m : Int, L_X1_firstStruck_3 KF (62 + 2 * p) n x 0 Y = some (m, Y) → -1 ≤ m → m < 60 → f_X11_struck p n x X = if m = -1 then some (-1, ms Y 0 16 6) else some (m, ms Y 0 16 0) := fun m m1 m3 m4 => by
        unfold f_X11_struck f_X1_firstStruck
        rw [w1, cl_some, g, c1_okk (by decide) (by decide), if_pos rfl, cm_ok n1, y1, cl_some, ax_ok (n := TRA.length) g1.1 g1.2, (TRA_at g1.1 g1.2).1, cm_ok (TRA_at g1.1 g1.2).2, show 61 + 2 * p + 1 = 62 + 2 * p by omega, m1, cl_some, c2_ok (by omega) (by omega) (by decide) (by decide)]
        by_cases e : m = -1
        · rw [if_neg (by simpa using e), if_pos e, fail_eq, cl_some]
        · rw [if_pos e, if_neg e, answer_eq, cl_some]
      obtain ⟨m, m1, -, m3, m4⟩ := hst X rfl rfl
      have eM2 : ∀ Z : Mem, Z 121 = X 121 → Z 124 = X 124 → Z 125 = X 125 → f_X12_struck p n x Z = if m = -1 then some (-1, ms Z 120 2 6) else some (m, ms Z 120 2 0) := fun Z z1 z2 z3 => by
        obtain ⟨m', k1, k2, k3, k4⟩ := hst Z z1 z3
        have em : m' = m := by
          rw [m1] at k1
          injection k1 with k1
          injection k1 with k1
          exact k1.symm
        subst em
        unfold f_X12_struck f_X12_struckAt
        rw [isSetm_eq (by rw [z1]; exact n3) hx, z1, if_pos gx, cl_some, c1_okk (by decide) (by decide), if_pos (by decide), w2 Z z1 z2 z3, cl_some, g, c1_okk (by decide) (by decide), if_pos (by decide), k2, cl_some, c2_ok (by omega) (by omega) (by decide) (by decide)]
        by_cases e : m' = -1
        · rw [if_neg (by simpa using e), if_pos e, refusem_eq, cl_some]
        · rw [if_pos e, if_neg e, gives_eq, cl_some]
      have f4 : ∀ v : Int, ∀ i : Int, (i = 121 ∨ i = 124 ∨ i = 125) → ms Y 0 16 v i = X i := fun v i hi => by
        rw [s16 (by omega)]
        exact y3 i (by omega) (by omega)
      have hck : ∀ v : Int, CK cn (ms Y 0 16 v) := fun v => (h.scr (Y := ms Y 0 16 v) (fun i k q1 q2 => by rw [ms_at, if_neg (by unfold ANS at q2; omega)]; exact y2 i k q1)).2.2
      by_cases e : m = -1
      · refine out_scr h y2 (r := -1) (v := 6) (by decide) (by decide) inI_m1 (by rw [eC m m1 m3 m4, if_pos e]) ⟨ms Y 0 16 6, ?_, fun i k _ _ => rfl, hck 6⟩
        rw [eM2 _ (f4 _ _ (by omega)) (f4 _ _ (by omega)) (f4 _ _ (by omega)), if_pos e]
      · refine out_scr h y2 (r := m) (v := 0) (by decide) (by decide) (inI_s (by omega) (by omega)) (by rw [eC m m1 m3 m4, if_neg e]) ⟨ms Y 0 16 0, ?_, fun i k _ _ => rfl, hck 0⟩
        rw [eM2 _ (f4 _ _ (by omega)) (f4 _ _ (by omega)) (f4 _ _ (by omega)), if_neg e]
    · refine out_st h (r := -1) (v := s) (by omega) (by omega) inI_m1 ?_ ?_
      · unfold f_X11_struck
        rw [w1, cl_some, c1_okk (by omega) (by omega), if_neg g, fail_eq, cl_some]
      · unfold f_X12_struck
        rw [isSetm_eq (by rw [eM]; exact n3) hx, eM, if_pos gx, cl_some, c1_okk (by decide) (by decide), if_pos (by decide), w2 _ (s16 (by decide)) (s16 (by decide)) (s16 (by decide)), cl_some, c1_okk (by omega) (by omega), if_neg (by omega), refusem_eq, cl_some]
  · have eC : f_X11_wayStatus p n x X = some (1, X) := by
      unfold f_X11_wayStatus
      rw [isTray_eq hp, cl_some]
      by_cases g1 : 0 ≤ p ∧ p < 4
      · rw [if_pos g1, c1_okk (by decide) (by decide), if_neg (by decide), c2_ok hn.1 hn.2 (by decide) (by decide), c2_ok hn.1 hn.2 (by decide) (by decide)]
        by_cases g2 : n < 1
        · rw [if_pos g2]
        · by_cases g3 : 40 < n
          · rw [if_neg g2, if_pos g3]
          · rw [if_neg g2, if_neg g3, isSet_eq n1 n2 n3 hx, if_neg gx, cl_some, c1_okk (by decide) (by decide), if_neg (by decide)]
      · rw [if_neg g1, c1_okk (by decide) (by decide), if_pos rfl]
    refine out_st h (r := -1) (v := 1) (by decide) (by decide) inI_m1 ?_ ?_
    · unfold f_X11_struck
      rw [eC, cl_some, c1_okk (by decide) (by decide), if_neg (by decide), fail_eq, cl_some]
    · unfold f_X12_struck
      rw [isSetm_eq (by rw [eM]; exact n3) hx, eM, if_neg gx, cl_some, c1_okk (by decide) (by decide), if_neg (by decide), refusem_eq, cl_some]
/-- the sets that pass a way, weighed -/
theorem sure_lk {X W : Mem} {r t p n : Int} {A T P : Int → Int} (hG : GL A (ND A) r X) (hB : BD A) (hm : X 2 0 = r) (hT : X t = T) (hWA : W 121 = A) (g1 : 0 ≤ p ∧ p < 4) (et : t = 62 + 2 * p) (n1 : n ≤ 40) (hZT : ∀ j : Int, 0 ≤ j → j < n → W 125 (60 * p + j) = T j) (hW : ∀ i : Int, 0 ≤ i → i < n → 0 ≤ T i ∧ T i < A 0 * A 1) (n0 : 0 ≤ n) (hP : X 18 = P) (hTH : TH P A) : ∀ (k : Nat) (q v : Int), 0 ≤ q → q ≤ NS A → (NS A - q).toNat < k → (0 ≤ v ∧ v ≤ 1000000 * q) →
    ∃ m : Int, L_X11_sure_52 k p n v q X = B_X11_sure_111 m X ∧ (∀ Z : Mem, Z 121 = W 121 → Z 125 = W 125 → L_X12_sure_23 k p n v q Z = B_X12_sure_71 m Z) ∧ 0 ≤ m ∧ m ≤ 32000000 := by
  have hN := NS_r hB.2.1
  have hG' := hG
  obtain ⟨hr, hR, -⟩ := hG'
  have hTH1 := hTH.1
  have hTH4 := hTH.2.2.2
  have hst : ∀ (q : Int) (Z : Mem), Z 121 = W 121 → Z 125 = W 125 → _ := fun q Z z1 z3 => strk_3 (X := X) (Z := Z) (t := t) (p := p) (n := n) (x := q) hG hB hT (by rw [z1]; exact hWA) n1 g1.1 g1.2 (fun j j0 j1 => by rw [z3]; exact hZT j j0 j1) hW KF 0 (by omega) n0 (by rw [KF_eq]; omega)
  intro k
  induction k with
  | zero => intro i _ _ _ h; omega
  | succ k ih =>
    intro q v q0 q1 hk hv
    have e1 : f_X2_setCount r X = some (NS A, X) := by
      unfold f_X2_setCount NS
      rw [hR.1.2.2.1]
    have e2 : ∀ Z : Mem, Z 121 = W 121 → f_X12_sets Z = some (NS A, Z) := fun Z z1 => by
      rw [sets_eq, z1, hWA]
      rfl
    rw [L_X11_sure_52, hm, cm_ok hr, e1, cl_some, c2_ok (by omega) (by omega) (by omega) (by omega)]
    have e3 : ∀ Z : Mem, Z 121 = W 121 → ∀ o, L_X12_sure_23 (k + 1) p n v q Z = o → _ := fun Z z1 o ho => by
      rw [L_X12_sure_23, e2 Z z1, cl_some, c2_ok (by omega) (by omega) (by omega) (by omega)] at ho
      exact ho
    by_cases g : NS A ≤ q
    · rw [if_pos g]
      refine ⟨v, rfl, fun Z z1 _ => ?_, hv.1, by omega⟩
      rw [← e3 Z z1 _ rfl, if_pos g]
    · obtain ⟨m, m1, -, m3, m4⟩ := hst q W rfl rfl
      have m2 : ∀ Z : Mem, Z 121 = W 121 → Z 125 = W 125 → L_X12_struckAt_3 KF p n q 0 Z = some (m, Z) := fun Z z1 z3 => by
        obtain ⟨m', k1, k2, -, -⟩ := hst q Z z1 z3
        rw [m1] at k1
        injection k1 with k1
        injection k1 with k1
        rw [k1]
        exact k2
      have hq := hTH1 q q0 (by omega)
      rw [if_neg g, ax_ok (n := TRA.length) g1.1 g1.2, (TRA_at g1.1 g1.2).1, cm_ok (TRA_at g1.1 g1.2).2, show 61 + 2 * p + 1 = t by omega]
      unfold f_X1_firstStruck
      rw [m1, cl_some, c2_ok (by omega) (by omega) (by decide) (by decide)]
      by_cases e : m = -1
      · rw [if_neg (by simpa using e), ax_ok (n := 32) q0 (by omega), bd_eq, hP, B_X11_sure_105]
        obtain ⟨m', r1, r2, r3⟩ := ih (q + 1) (v + P q) (by omega) (by omega) (by omega) ⟨by omega, by omega⟩
        refine ⟨m', r1, fun Z z1 z3 => ?_, r3⟩
        have e4 := e3 Z z1 _ rfl
        unfold f_X12_struckAt at e4
        rw [← e4, if_neg g, m2 Z z1 z3, cl_some, c2_ok (by omega) (by omega) (by decide) (by decide), if_neg (by simpa using e), ax_ok (n := 2200) (by omega) (by omega), z1, hWA, hTH4 q q0 (by omega), c1_okk (by omega) (by omega), B_X12_sure_62, bd_eq]
        exact r2 Z z1 z3
      · rw [if_pos e, B_X11_sure_105]
        obtain ⟨m', r1, r2, r3⟩ := ih (q + 1) v (by omega) (by omega) (by omega) ⟨by omega, by omega⟩
        refine ⟨m', r1, fun Z z1 z3 => ?_, r3⟩
        have e4 := e3 Z z1 _ rfl
        unfold f_X12_struckAt at e4
        rw [← e4, if_neg g, m2 Z z1 z3, cl_some, c2_ok (by omega) (by omega) (by decide) (by decide), if_pos e, B_X12_sure_62, bd_eq, Int.add_zero]
        exact r2 Z z1 z3
theorem q_sure : pair_27 REL := by
  intro p n hp hn cn X hcn h
  obtain ⟨n1, n2, n3, n4, n5, n6⟩ := h.now
  have hN := NS_r n3.2.1
  obtain ⟨s, hs, w1, w2, w3⟩ := wayst_eq h hp hn (x := 0) ⟨by decide, by omega⟩
  show OUT cn (f_X11_sure p n) (f_X12_sure p n) X
  by_cases g : s = 0
  · obtain ⟨g1, g2, g3, g4, g5⟩ := w3 g
    obtain ⟨Y, y1, y2, y3, y4⟩ := h.look
    have hT : Y (62 + 2 * p) = X (62 + 2 * p) := y3 _ (by omega) (by omega)
    obtain ⟨m, m1, m2, m3, m4⟩ := sure_lk (X := Y) (W := X) (t := 62 + 2 * p) (p := p) (n := n) y4 n3 (by rw [y3 2 (by decide) (by decide)]) hT rfl g1 rfl (by omega) (fun j j0 j1 => (g5 j j0 j1).2) g4.1 (by omega) (y3 18 (by decide) (by decide)) n6 KF 0 0 (by omega) (by omega) (by rw [KF_eq]; omega) ⟨by decide, by decide⟩
    have hJ := frac_J (a := m) (b := 1000000) m3 (by omega) (by decide) (by decide)
    refine out_frac h (Y := Y) y2 hJ.1 hJ.2 ?_ ⟨_, ?_, fun _ _ _ _ => rfl, fun h => h⟩
    · unfold f_X11_sure
      rw [w1, cl_some, g, c1_okk (by decide) (by decide), if_pos rfl, cm_ok n1, y1, cl_some, m1, B_X11_sure_111, tellF_s m3 (by omega) (by decide) (by decide), cl_some, cz_1]
    · have eX : ∀ (p q i : Int), (i = 121 ∨ i = 124 ∨ i = 125) → fC Y p q i = X i := fun p q i hi => by
        rw [← y3 i (by omega) (by omega)]
        exact funext fun k => fC_o (by omega)
      unfold f_X12_sure
      rw [w2 _ (eX _ _ _ (by omega)) (eX _ _ _ (by omega)) (eX _ _ _ (by omega)), cl_some, g, c1_okk (by decide) (by decide), if_pos (by decide), m2 _ (eX _ _ _ (by omega)) (eX _ _ _ (by omega)), B_X12_sure_71, tellsBy_s m3 (by omega) (by decide) (by decide), cl_some, cz_1]
  · refine out_st h (r := 0) (v := s) (by omega) (by omega) (inI_s (by decide) (by decide)) ?_ ?_
    · unfold f_X11_sure f_X11_refuse
      rw [w1, cl_some, c1_okk (by omega) (by omega), if_neg g, bd_eq, cl_some, cz_0]
    · unfold f_X12_sure
      rw [w2 _ (s16 (by decide)) (s16 (by decide)) (s16 (by decide)), cl_some, c1_okk (by omega) (by omega), if_neg (by omega), isM_eq (by omega) (by omega), cl_some, cz_0]
