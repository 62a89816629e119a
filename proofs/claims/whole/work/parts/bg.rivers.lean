/-! rivers: the call -/
theorem RV.ag {X : Mem} {r : Int} {A B : Int → Int} (h : RV X r A) (hB : BD A) (e : ∀ k : Int, (0 ≤ k ∧ k < 3) ∨ (5 ≤ k ∧ k < 14) ∨ (16 ≤ k ∧ k < 168) → B k = A k) : RV X r B := by
  have hc := BD_cells hB
  have hB2 := hB.2.1
  have h13 := hB.2.2.2.2.2.2.2.2.2.2.2.2.1
  obtain ⟨h1, h2, h3, h4, h5, h6, h7⟩ := h
  have est : ∀ d : Int, 0 ≤ d → d < 12 → stg B d = stg A d := fun d d0 d1 => by
    unfold stg
    rw [e 13 (by omega), e (16 + d) (by omega)]
  refine ⟨?_, fun c a b => ?_, fun c a b => ?_, fun d a b => ?_, fun c a b => ?_, fun b b0 b1 => ?_, h7⟩
  · rw [e 0 (by omega), e 1 (by omega), e 2 (by omega), e 5 (by omega), e 6 (by omega), e 7 (by omega), e 8 (by omega), e 9 (by omega), e 10 (by omega), e 11 (by omega), e 12 (by omega)]
    exact h1
  · rw [e _ (by omega)]; exact h2 c a b
  · rw [e _ (by omega)]; exact h3 c a b
  · rw [est d a b]; exact h4 d a b
  · rw [e 2 (by omega)] at b
    rw [e _ (by omega), e _ (by omega), e _ (by omega), e _ (by omega)]; exact h5 c a b
  · rw [e 2 (by omega)] at b1
    have := h6 b b0 b1
    unfold LE at *
    rw [e 0 (by omega), e 1 (by omega)]
    rcases this with ⟨l1, l2⟩ | ⟨l1, l2, l3, l4⟩
    · exact Or.inl ⟨l1, fun c c0 c1 => by rw [e _ (by omega)]; exact l2 c c0 c1⟩
    · exact Or.inr ⟨l1, l2, by rw [e _ (by omega)]; exact l3, fun c c0 c1 => by rw [e _ (by omega)]; exact l4 c c0 c1⟩
theorem BD.ag {A B : Int → Int} (h : BD A) (e : ∀ k : Int, (0 ≤ k ∧ k < 14) ∨ (16 ≤ k ∧ k < 168) → B k = A k) (h14 : 0 ≤ B 14 ∧ B 14 ≤ 60) : BD B := by
  obtain ⟨a0, a2, a3, a4, a5, a6, a7, a8, a9, a10, a11, a12, a13, a14, as, ab, ad, ao⟩ := h
  unfold BD
  rw [e 0 (by omega), e 1 (by omega), e 2 (by omega), e 3 (by omega), e 4 (by omega), e 5 (by omega), e 6 (by omega), e 7 (by omega), e 8 (by omega), e 9 (by omega), e 10 (by omega), e 11 (by omega), e 12 (by omega), e 13 (by omega)]
  exact ⟨a0, a2, a3, a4, a5, a6, a7, a8, a9, a10, a11, a12, a13, h14, fun d d0 d1 => by rw [e _ (by omega)]; exact as d d0 d1, fun j j0 j1 => by rw [e _ (by omega)]; exact ab j j0 j1, fun q q0 q1 => by rw [e _ (by omega)]; exact ad q q0 q1, fun q q0 q1 => by rw [e _ (by omega)]; exact ao q q0 q1⟩
theorem RU.ag {X : Mem} {u : Int} {A B : Int → Int} (h : RU X u A) (hA : 0 ≤ A 14 ∧ A 14 ≤ 60) (e14 : B 14 = A 14) (e : ∀ k : Int, 200 ≤ k → k < 440 → B k = A k) : RU X u B := by
  obtain ⟨h1, h2⟩ := h
  unfold RU
  rw [e14]
  refine ⟨h1, fun k a b => ?_⟩
  have h3 := h2 k a b
  unfold LN at *
  rw [e14, e (200 + 4 * k) (by omega) (by omega), e (200 + 4 * k + 1) (by omega) (by omega), e (200 + 4 * k + 2) (by omega) (by omega), e (200 + 4 * k + 3) (by omega) (by omega)]
  exact h3
/-- what stays when a text was read: all but the temporary river, the text, the reference's tokens -/
theorem keeps_tail {cn : Int} {X F : Mem} (h : RZ cn X) (ev : F 120 22 = X 120 22 ∨ F 120 22 = X 120 22 + 1) (e0 : ∀ k : Int, k = 14 ∨ k = 15 → F 0 k = X 0 k) (e120 : ∀ q : Int, (26 ≤ q) → F 120 q = X 120 q) (ei : ∀ i : Int, (41 ≤ i ∧ i ≤ 119) ∨ (123 ≤ i ∧ i ≤ 126) ∨ (130 ≤ i ∧ i ≤ 139) → i ≠ 41 → i ≠ 130 → F i = X i) (e121 : ∀ q : Int, 440 ≤ q → q < 1760 → F 121 q = X 121 q) (e122 : ∀ q : Int, 5 ≤ q → q < 20 → F 122 q = X 122 q) : RM F ∧ RT F ∧ RK F ∧ RQ F ∧ RTu cn F := by
  obtain ⟨h1, h2, h3, h4, h5, h6, h7, h8, h9, h10, h11, h12, h13⟩ := h
  obtain ⟨⟨c0, c1, c2⟩, hm⟩ := id h5
  refine ⟨⟨by rw [e0 15 (by omega), e120 53 (by decide)]; exact ⟨c0, c1, c2⟩, fun j j0 j1 => ?_⟩, h6.fr fun i hi => ei i (by omega) (by omega) (by omega), h9.fr (by rw [ei 42 (by omega) (by omega) (by omega)]) (e120 36 (by decide)) (ei 48 (by omega) (by omega) (by omega)) (ei 135 (by omega) (by omega) (by omega)), h10.fr (e0 14 (by omega)) (e120 52 (by decide)) (ei 60 (by omega) (by omega) (by omega)) (ei 139 (by omega) (by omega) (by omega)), h12.fr (ei 58 (by omega) (by omega) (by omega)) (ei 138 (by omega) (by omega) (by omega))⟩
  rw [e0 15 (by omega)] at j1
  obtain ⟨m1, m2⟩ := hm j j0 j1
  have mk := h1.mk j0 (by omega)
  refine ⟨?_, by rw [e121 _ (by omega) (by omega)]; exact m2⟩
  have hfr : SS F (52 + 17 * j) (fun k => X 121 (440 * j + k)) (fun b => X 122 (5 * j + b)) := m1.fr (ei _ (by omega) (by omega) (by omega)) (fun i a b => ei i (by omega) (by omega) (by omega)) (fun i a b => ei i (by omega) (by omega) (by omega)) (ei _ (by omega) (by omega) (by omega))
  exact hfr.ext (fun k k0 k1 => e121 _ (by omega) (by omega)) fun b b0 b1 => e122 _ (by omega) (by omega)
/-- the reference's river is laid into slot 0 -/
theorem river_123 {Z : Mem} : ∀ (K : Nat) (j : Int) (G : Int → Int), 0 ≤ j → j ≤ 200 → (200 - j).toNat < K → (∀ q : Int, 0 ≤ q → q < j → G q = Z 121 (1760 + q)) → (∀ q : Int, q < 0 ∨ j ≤ q → G q = Z 121 q) → ∃ G' : Int → Int, L_X12_river_123 K j (ma Z 121 G) = B_X12_river_152 (ma Z 121 G') ∧ (∀ q : Int, 0 ≤ q → q < 200 → G' q = Z 121 (1760 + q)) ∧ ∀ q : Int, q < 0 ∨ 200 ≤ q → G' q = Z 121 q := by
  intro K
  induction K with
  | zero => intro j G _ _ h; omega
  | succ K ih =>
    intro j G j0 j1 hK hG hG2
    rw [L_X12_river_123, c2_ok (by omega) (by omega) (by decide) (by decide)]
    by_cases g : 200 ≤ j
    · rw [if_pos g]
      exact ⟨G, rfl, fun q q0 q1 => hG q q0 (by omega), fun q hq => hG2 q (by omega)⟩
    · rw [if_neg g, ax_ok (by omega) (by omega), ax_ok (by omega) (by omega), bd_eq, ma_same, hG2 (1760 + j) (by omega), ms_row]
      refine ih (j + 1) _ (by omega) (by omega) (by omega) (fun q q0 q1 => ?_) (fun q hq => ?_)
      · rw [up_at]
        by_cases e : q = j
        · rw [if_pos e, e]
        · rw [if_neg e]
          exact hG q q0 (by omega)
      · rw [up_ne (by omega)]
        exact hG2 q (by omega)
theorem river_154 {Z : Mem} : ∀ (K : Nat) (j : Int) (G : Int → Int), 0 ≤ j → j ≤ 5 → (5 - j).toNat < K → (∀ q : Int, 0 ≤ q → q < j → G q = Z 122 (20 + q)) → (∀ q : Int, q < 0 ∨ j ≤ q → G q = Z 122 q) → ∃ G' : Int → Int, L_X12_river_154 K j (ma Z 122 G) = B_X12_river_180 (ma Z 122 G') ∧ (∀ q : Int, 0 ≤ q → q < 5 → G' q = Z 122 (20 + q)) ∧ ∀ q : Int, q < 0 ∨ 5 ≤ q → G' q = Z 122 q := by
  intro K
  induction K with
  | zero => intro j G _ _ h; omega
  | succ K ih =>
    intro j G j0 j1 hK hG hG2
    rw [L_X12_river_154, c2_ok (by omega) (by omega) (by decide) (by decide)]
    by_cases g : 5 ≤ j
    · rw [if_pos g]
      exact ⟨G, rfl, fun q q0 q1 => hG q q0 (by omega), fun q hq => hG2 q (by omega)⟩
    · rw [if_neg g, ax_ok (by omega) (by omega), ax_ok (by omega) (by omega), bd_eq, ma_same, hG2 (20 + j) (by omega), ms_row]
      refine ih (j + 1) _ (by omega) (by omega) (by omega) (fun q q0 q1 => ?_) (fun q hq => ?_)
      · rw [up_at]
        by_cases e : q = j
        · rw [if_pos e, e]
        · rw [if_neg e]
          exact hG q q0 (by omega)
      · rw [up_ne (by omega)]
        exact hG2 q (by omega)
theorem river_lay {V : Mem} (h18 : V 120 18 = 0) : ∃ G N : Int → Int, B_X12_river_99 V = B_X12_river_180 (ma (ma V 121 G) 122 N) ∧ (∀ q : Int, 0 ≤ q → q < 200 → q ≠ 14 → G q = V 121 (1760 + q)) ∧ G 14 = V 121 14 ∧ (∀ q : Int, 200 ≤ q → q ≠ 1774 → G q = V 121 q) ∧ (∀ q : Int, 0 ≤ q → q < 5 → N q = V 122 (20 + q)) ∧ ∀ q : Int, q < 0 ∨ 5 ≤ q → N q = V 122 q := by
  obtain ⟨G, g1, g2, g3⟩ := river_123 (Z := ms V 121 1774 (V 121 14)) KF 0 (ms V 121 1774 (V 121 14) 121) (by decide) (by decide) (by rw [KF_eq]; omega) (fun q _ _ => by omega) (fun q _ => rfl)
  rw [ma_self] at g1
  have eG : ma (ms V 121 1774 (V 121 14)) 121 G = ma V 121 G := by rw [ms_ma, ma_ma]
  rw [eG] at g1
  obtain ⟨N, n1, n2, n3⟩ := river_154 (Z := ma V 121 G) KF 0 (ma V 121 G 122) (by decide) (by decide) (by rw [KF_eq]; omega) (fun q _ _ => by omega) (fun q _ => rfl)
  rw [ma_self] at n1
  refine ⟨G, N, ?_, fun q q0 q1 q2 => ?_, ?_, fun q q0 q1 => ?_, fun q q0 q1 => ?_, fun q hq => ?_⟩
  · rw [B_X12_river_99, h18, c1_0, n00, ax_ok (by decide) (by decide), ax_ok (by decide) (by decide), bd_eq, g1, B_X12_river_152, n1]
  · rw [g2 q q0 q1, ms_at, if_neg (by omega)]
  · rw [g2 14 (by decide) (by decide), ms_at, if_pos ⟨rfl, rfl⟩]
  · rw [g3 q (by omega), ms_at, if_neg (fun h => q1 h.2)]
  · rw [n2 q q0 q1, ma_ne (by decide)]
  · rw [n3 q hq, ma_ne (by decide)]
theorem RZ.up' {cn : Int} {X : Mem} (h : PT2 X ∧ SS X 2 (X 121) (X 122) ∧ X 121 3 ≤ 99 ∧ RB X (X 0 3) ∧ RM X ∧ RT X ∧ RF X ∧ RX X ∧ RK X ∧ RQ X ∧ RW X ∧ RTu cn X) (hc : CK (cn + 1) X) : RZ (cn + 1) X := by
  obtain ⟨h1, h2, h3, h4, h5, h6, h7, h8, h9, h10, h11, h12⟩ := h
  refine ⟨h1, h2, h3, h4, h5, h6, h7, h8, h9, h10, h11, fun o a b => ?_, hc⟩
  have := h12 o a b
  omega
theorem q_river : pair_8 REL := by
  intro n hn cn X hcn h
  have hrel := id h
  obtain ⟨hS, hZ⟩ := id h
  obtain ⟨h1, h2, h3, h4, h5, h6, h7, h8, h9, h10, h11, h12, h13⟩ := id hZ
  obtain ⟨n1, n2, n3, n4, n5, n6⟩ := h.now
  obtain ⟨⟨f0, f1, f2⟩, f3⟩ := id h7
  show OUT cn (f_X11_river n) (f_X12_river n) X
  by_cases g : 0 ≤ n ∧ n ≤ X 35 1
  · have hT : TXT (X 36) n := ⟨⟨g.1, by omega⟩, fun i i0 i1 => (f3 i i0 (by omega)).1⟩
    have hp := h1.r
    have hr : X 0 3 ∈ RIV := by
      rcases h1.1 with ⟨-, e⟩ | ⟨-, e⟩ <;> rw [e] <;> decide
    have hrr := RIV_c hr
    rcases river_run (r := X 0 3) hr hT with ⟨S, s1, s2, s3⟩ | ⟨f, b, s0, s1, s2, s3⟩
    · obtain ⟨Y, y1, ⟨y2, y35, y36⟩, y3⟩ := s2 X rfl h4
      have yo : ∀ i : Int, i ≠ 35 → i ≠ 37 → (i < X 0 3 ∨ X 0 3 + 9 < i) → Y i = X i := fun i a b c => y3.1 i a (fun e => by
        rcases e with e | e
        · exact b e
        · omega)
      have hA2 := s1.1.2.1
      have hA1 : 2 ≤ S.A 0 ∧ S.A 0 ≤ 10 ∧ 2 ≤ S.A 1 ∧ S.A 1 ≤ 6 := by
        have := s1.2.1
        have := s1.1.1
        omega
      have hcell : 0 ≤ S.A 0 * S.A 1 ∧ S.A 0 * S.A 1 ≤ 60 := by
        refine ⟨Int.mul_nonneg (by omega) (by omega), ?_⟩
        have := Int.mul_le_mul hA1.2.1 hA1.2.2.2 (by omega) (by decide : (0 : Int) ≤ 10)
        omega
      obtain ⟨m, hm⟩ : ∃ m : Nat, S.A 2 = m := ⟨(S.A 2).toNat, by omega⟩
      have hNS : NS S.A = ((2 ^ m : Nat) : Int) := by
        have := (NS_v hA2).1
        rw [show (S.A 2).toNat = m by omega] at this
        exact this
      obtain ⟨U, hU⟩ : ∃ U : Mem, U = ms (ms (ms (ms (ms Y 35 1 0) 2 0 (X 0 3)) 0 3 (X 2 0)) 2 3 0) 2 4 0 := ⟨_, rfl⟩
      have uo : ∀ i : Int, i ≠ 0 → i ≠ 2 → i ≠ 35 → U i = Y i := fun i a b c => by rw [hU, ms_ne b, ms_ne b, ms_ne a, ms_ne b, ms_ne c]
      have u0 : ∀ k : Int, U 0 k = if k = 3 then X 2 0 else X 0 k := fun k => by
        rw [hU, ms_ne (by decide), ms_ne (by decide), ms_at]
        by_cases e : k = 3
        · rw [if_pos ⟨rfl, e⟩, if_pos e]
        · rw [if_neg (fun h => e h.2), if_neg e, ms_ne (by decide), ms_ne (by decide), yo 0 (by decide) (by decide) (by omega)]
      have u2 : ∀ k : Int, U 2 k = if k = 4 then 0 else if k = 3 then 0 else if k = 0 then X 0 3 else X 2 k := fun k => by
        rw [hU, ms_at]
        by_cases a : k = 4
        · rw [if_pos ⟨rfl, a⟩, if_pos a]
        · rw [if_neg (fun h => a h.2), if_neg a, ms_at]
          by_cases b : k = 3
          · rw [if_pos ⟨rfl, b⟩, if_pos b]
          · rw [if_neg (fun h => b h.2), if_neg b, ms_ne (by decide), ms_at]
            by_cases c : k = 0
            · rw [if_pos ⟨rfl, c⟩, if_pos c]
            · rw [if_neg (fun h => c h.2), if_neg c, ms_ne (by decide), yo 2 (by decide) (by decide) (by omega)]
      have uRV : RV U (X 0 3) S.A := y2.2.1.fr (fun i a b => uo i (by omega) (by omega) (by omega))
      have uRB : ∀ b : Int, 0 ≤ b → b < 5 → 0 ≤ U (X 0 3 + 6) b ∧ U (X 0 3 + 6) b ≤ 16 := fun b b0 b1 => (uRV.2.2.2.2.2.2 b b0 b1).2.1
      have u41 : U 41 = X 41 := by rw [uo 41 (by decide) (by decide) (by decide), yo 41 (by decide) (by decide) (by omega)]
      have thk : ∀ A : Int → Int, (∀ q : Int, 0 ≤ q → q < 200 → q ≠ 14 → A q = S.A q) → _ := fun A hA => think_two (r := X 0 3) (p := 18) (m := m) (X := U) (A := A) (g130 := X 130) (by omega) (by omega) (by omega) (by decide) (by rw [uRV.1.2.2.1, hm]) uRB (fun q hq => by rw [u41]; exact h11.1 q hq) (by rw [hA 2 (by decide) (by decide) (by decide), hm]) (fun b b0 b1 => by rw [hA _ (by omega) (by omega) (by omega)]; exact s1.1.2.2.2.2.2.2.2.2.2.2.2.2.2.2.2.1 _ (by omega) (by omega)) (fun b b0 b1 => by rw [hA _ (by omega) (by omega) (by omega)]; exact (uRV.2.2.2.2.1 b b0 (by omega)).2.1.symm) h11.2
      obtain ⟨W1, P1, -, -, t1, -, w41, -, -⟩ := thk S.A (fun q _ _ _ => rfl)
      obtain ⟨W, hW⟩ : ∃ W : Mem, W = ms (ma (ma U 41 W1) 18 P1) 0 16 0 := ⟨_, rfl⟩
      have wo : ∀ i : Int, i ≠ 0 → i ≠ 2 → i ≠ 18 → i ≠ 35 → i ≠ 37 → i ≠ 41 → (i < X 0 3 ∨ X 0 3 + 9 < i) → W i = X i := fun i a b c d e f g => by rw [hW, ms_ne a, ma_ne c, ma_ne f, uo i a b d, yo i d e g]
      have wU : ∀ i : Int, i ≠ 0 → i ≠ 18 → i ≠ 41 → W i = U i := fun i a b c => by rw [hW, ms_ne a, ma_ne b, ma_ne c]
      have w0 : ∀ k : Int, W 0 k = if k = 16 then 0 else if k = 3 then X 2 0 else X 0 k := fun k => by
        rw [hW, ms_at]
        by_cases e : k = 16
        · rw [if_pos ⟨rfl, e⟩, if_pos e]
        · rw [if_neg (fun h => e h.2), if_neg e, ma_ne (by decide), ma_ne (by decide), u0]
      have w18 : W 18 = P1 := by rw [hW, ms_ne (by decide), ma_same]
      have w41' : W 41 = W1 := by rw [hW, ms_ne (by decide), ma_ne (by decide), ma_same]
      have w126 : W 126 = X 126 := wo 126 (by decide) (by decide) (by decide) (by decide) (by decide) (by decide) (by omega)
      have w120 : W 120 = X 120 := wo 120 (by decide) (by decide) (by decide) (by decide) (by decide) (by decide) (by omega)
      have w121 : W 121 = X 121 := wo 121 (by decide) (by decide) (by decide) (by decide) (by decide) (by decide) (by omega)
      have w122 : W 122 = X 122 := wo 122 (by decide) (by decide) (by decide) (by decide) (by decide) (by decide) (by omega)
      obtain ⟨V, v1, ⟨v2, v2'⟩, v3, v4, v5, v6, v7, v8⟩ := s3 W (fun i a b => by rw [w126]; exact (f3 i a (by omega)).2) (by rw [w120]; omega) (by rw [w120]; omega)
      obtain ⟨G, N, l1, l2, l3, l4, l5, l6⟩ := river_lay v2
      have gA : ∀ q : Int, 0 ≤ q → q < 200 → q ≠ 14 → G q = S.A q := fun q q0 q1 q2 => by rw [l2 q q0 q1 q2]; exact v3.2.1 q q0 q1
      obtain ⟨W2, P2, V2, G2, t2, t3, -, t5, p1, p2, p3, t6, t7⟩ := thk G gA
      have eP : P2 = P1 := by
        have e := t1.symm.trans t2
        have e2 : ma (ma U 41 W1) 18 P1 = ma (ma U 41 W2) 18 P2 := by
          injection e with e
          exact congrArg Prod.snd e
        have e3 := congrFun e2 18
        rw [ma_same, ma_same] at e3
        exact e3.symm
      rw [eP] at p1 p2 p3 t6
      obtain ⟨M, hM⟩ : ∃ M : Mem, M = ma (ma V 121 G) 122 N := ⟨_, rfl⟩
      have m130 : M 130 = X 130 := by rw [hM, ma_ne (by decide), ma_ne (by decide), v4 130 (by decide) (by decide) (by decide) (by decide) (by decide), wo 130 (by decide) (by decide) (by decide) (by decide) (by decide) (by decide) (by omega)]
      have m121 : M 121 = G := by rw [hM, ma_ne (by decide), ma_same]
      have hfst := t3 M m121 m130
      obtain ⟨F, hF⟩ : ∃ F : Mem, F = ms (ms (ms (ma (ma M 130 V2) 121 G2) 120 22 (X 120 22 + 1)) 120 16 0) 120 2 0 := ⟨_, rfl⟩
      have fo : ∀ i : Int, i ≠ 120 → i ≠ 121 → i ≠ 122 → i ≠ 127 → i ≠ 128 → i ≠ 130 → F i = W i := fun i a b c d e f => by rw [hF, ms_ne a, ms_ne a, ms_ne a, ma_ne b, ma_ne f, hM, ma_ne c, ma_ne b, v4 i a b c d e]
      have f120 : ∀ q : Int, q ≠ 2 → q ≠ 16 → q ≠ 22 → F 120 q = V 120 q := fun q a b c => by rw [hF, ms_at, if_neg (fun h => a h.2), ms_at, if_neg (fun h => b h.2), ms_at, if_neg (fun h => c h.2), ma_ne (by decide), ma_ne (by decide), hM, ma_ne (by decide), ma_ne (by decide)]
      have f120x : ∀ q : Int, q ≠ 2 → q ≠ 16 → q ≠ 22 → (q < 10 ∨ (20 < q ∧ q < 24) ∨ 25 < q) → F 120 q = X 120 q := fun q a b c d => by rw [f120 q a b c, v5 q (by omega), w120]
      have f22 : F 120 22 = X 120 22 + 1 := by rw [hF, ms_at, if_neg (by decide), ms_at, if_neg (by decide), ms_at, if_pos ⟨rfl, rfl⟩]
      have f121 : F 121 = G2 := by rw [hF, ms_ne (by decide), ms_ne (by decide), ms_ne (by decide), ma_same]
      have f122 : F 122 = N := by rw [hF, ms_ne (by decide), ms_ne (by decide), ms_ne (by decide), ma_ne (by decide), ma_ne (by decide), hM, ma_same]
      have f130 : F 130 = V2 := by rw [hF, ms_ne (by decide), ms_ne (by decide), ms_ne (by decide), ma_ne (by decide), ma_same]
      have fx : ∀ i : Int, i ≠ 0 → i ≠ 2 → i ≠ 18 → i ≠ 35 → i ≠ 37 → i ≠ 41 → i ≠ 120 → i ≠ 121 → i ≠ 122 → i ≠ 127 → i ≠ 128 → i ≠ 130 → (i < X 0 3 ∨ X 0 3 + 9 < i) → F i = X i := fun i a b c d e f g h k l o p q => by rw [fo i g h k l o p, wo i a b c d e f q]
      have f0' : ∀ k : Int, k ≠ 16 → k ≠ 3 → F 0 k = X 0 k := fun k hk hk3 => by rw [fo 0 (by decide) (by decide) (by decide) (by decide) (by decide) (by decide), w0, if_neg hk, if_neg hk3]
      have f03 : F 0 3 = X 2 0 := by rw [fo 0 (by decide) (by decide) (by decide) (by decide) (by decide) (by decide), w0]; rfl
      have f2 : ∀ k : Int, F 2 k = if k = 4 then 0 else if k = 3 then 0 else if k = 0 then X 0 3 else X 2 k := fun k => by rw [fo 2 (by decide) (by decide) (by decide) (by decide) (by decide) (by decide), wU 2 (by decide) (by decide) (by decide), u2]
      have gG : ∀ q : Int, q < 168 ∨ 200 ≤ q → G2 q = G q := t7
      have gX : ∀ q : Int, 200 ≤ q → q < 1760 → G2 q = X 121 q := fun q q0 q1 => by rw [gG q (by omega), l4 q q0 (by omega), v6 q q1, w121]
      have gS : ∀ q : Int, (0 ≤ q ∧ q < 14) ∨ (16 ≤ q ∧ q < 168) → G2 q = S.A q := fun q hq => by rw [gG q (by omega), gA q (by omega) (by omega) (by omega)]
      have g14 : G2 14 = X 121 14 := by rw [gG 14 (by omega), l3, v6 14 (by decide), w121]
      have hBD : BD G2 := s1.1.ag gS (by rw [g14]; exact n3.2.2.2.2.2.2.2.2.2.2.2.2.2.1)
      have hNG : NS G2 = ((2 ^ m : Nat) : Int) := by
        rw [← hNS]
        unfold NS
        rw [gS 2 (by omega)]
      refine ⟨S.A 0 * S.A 1, W, F, ?_, ?_, inI_s (by omega) (by omega), ?_, ?_⟩
      · have e203 : ms Y 35 1 0 2 0 = X 2 0 := by rw [ms_ne (by decide), yo 2 (by decide) (by decide) (by omega)]
        have e003 : ms Y 35 1 0 0 3 = X 0 3 := by rw [ms_ne (by decide), yo 0 (by decide) (by decide) (by omega)]
        have e20 : U 2 0 = X 0 3 := by rw [u2]; rfl
        have es : f_X11_startAfresh (ms (ms (ms Y 35 1 0) 2 0 (X 0 3)) 0 3 (X 2 0)) = some (0, ma (ma U 41 W1) 18 P1) := by
          unfold f_X11_startAfresh
          rw [bd_eq, bd_eq, ← hU, e20, cm_ok hr, t1, cl_some]
        have e20' : ma (ma U 41 W1) 18 P1 2 0 = X 0 3 := by rw [ma_ne (by decide), ma_ne (by decide), e20]
        have ec : ∀ k : Int, ma (ma U 41 W1) 18 P1 (X 0 3) k = U (X 0 3) k := fun k => by rw [ma_ne (by omega), ma_ne (by omega)]
        unfold f_X11_river
        rw [c1_okk hn.1 hn.2, if_neg (by omega), c2_ok hn.1 hn.2 (by omega) (by omega), if_pos g.2, cm_ok hr, y1, cl_some, bd_eq, c1_1, n10, e203, cm_ok n1, e003, cm_ok hr, bd_eq, bd_eq, es, cl_some, e20', cm_ok hr]
        unfold f_X2_cellCount
        rw [cl_some, ec, ec, uRV.1.1, uRV.1.2.1, answer_eq, cl_some, hW]
      · have e1 : V 120 22 = X 120 22 := by rw [v5 22 (by decide), w120]
        have eM : ma (ma M 130 V2) 121 G2 120 = V 120 := by rw [ma_ne (by decide), ma_ne (by decide), hM, ma_ne (by decide), ma_ne (by decide)]
        have e18 : ms (ma (ma M 130 V2) 121 G2) 120 22 (X 120 22 + 1) 120 18 = 0 := by rw [ms_at, if_neg (by decide), eM, v2]
        have e0 : ms (ma (ma M 130 V2) 121 G2) 120 22 (X 120 22 + 1) 121 = G2 := by rw [ms_ne (by decide), ma_same]
        rw [v1, l1, ← hM, B_X12_river_180, hfst, cl_some, eM, e1, bd_eq, B_X12_river_194]
        unfold f_X12_cells f_X12_taken
        rw [ax_ok (by decide) (by decide), ax_ok (by decide) (by decide), cl_some, e0, gS 0 (by omega), gS 1 (by omega), e18, bd_eq, ms_at, if_neg (by decide), e18, c1_0, if_pos (by decide), gives_eq, cl_some, cl_some, hF]
      · have a16 : F 0 16 = 0 := by rw [fo 0 (by decide) (by decide) (by decide) (by decide) (by decide) (by decide), w0]; rfl
        have a2 : F 120 2 = 0 := by rw [hF, ms_at, if_pos ⟨rfl, rfl⟩]
        unfold RS at *
        rw [a16, a2, f0' 17 (by decide) (by decide), f0' 18 (by decide) (by decide), f120x 3 (by decide) (by decide) (by decide) (by decide), f120x 4 (by decide) (by decide) (by decide) (by decide)]
        exact ⟨⟨by decide, by decide, rfl⟩, hS.2⟩
      · obtain ⟨m1, m2, m3, m4, m5⟩ := keeps_tail (F := F) hZ (Or.inr f22) (fun k hk => f0' k (by omega) (by omega)) (fun q hq => f120x q (by omega) (by omega) (by omega) (by omega)) (fun i hi a b => fx i (by omega) (by omega) (by omega) (by omega) (by omega) (by omega) (by omega) (by omega) (by omega) (by omega) (by omega) (by omega) (by omega)) (fun q q0 hq => by rw [f121]; exact gX q (by omega) hq) (fun q q0 hq => by rw [f122, l6 q (by omega), v7 q hq, w122])
        have hdis := h1.1
        refine RZ.up' ⟨?_, ?_, ?_, ?_, m1, m2, ?_, ?_, m3, m4, ?_, m5⟩ ?_
        · obtain ⟨d1, d2, d3, d4, d5⟩ := h1
          refine ⟨?_, ?_, ?_, ?_, ?_⟩
          · rw [f03, f2]
            rcases d1 with ⟨a, b⟩ | ⟨a, b⟩
            · exact Or.inr ⟨b, a⟩
            · exact Or.inl ⟨b, a⟩
          · rw [f2, f0' 4 (by decide) (by decide)]
            exact d2
          · rw [fx 69 (by decide) (by decide) (by decide) (by decide) (by decide) (by decide) (by decide) (by decide) (by decide) (by decide) (by decide) (by decide) (by omega)]
            exact d3
          · rw [fx 86 (by decide) (by decide) (by decide) (by decide) (by decide) (by decide) (by decide) (by decide) (by decide) (by decide) (by decide) (by decide) (by omega)]
            exact d4
          · rw [fx 103 (by decide) (by decide) (by decide) (by decide) (by decide) (by decide) (by decide) (by decide) (by decide) (by decide) (by decide) (by decide) (by omega)]
            exact d5
        · have e20 : F 2 0 = X 0 3 := by rw [f2]; rfl
          have e21 : F 2 1 = X 2 1 := by rw [f2]; rfl
          have hrul := h1.2.1
          rw [f121, f122]
          refine ⟨?_, ?_, ?_, ?_, ?_, hBD, fun b b0 b1 => ?_⟩
          · rw [f2, gS 3 (by omega), s1.2.2.2.2.2.1.1]; rfl
          · rw [f2, gS 4 (by omega), s1.2.2.2.2.2.1.2.1]; rfl
          · rw [e20]
            exact (uRV.fr (Y := F) fun i a b => by rw [fo i (by omega) (by omega) (by omega) (by omega) (by omega) (by omega), wU i (by omega) (by omega) (by omega)]).ag s1.1 fun k hk => gS k (by omega)
          · rw [e21]
            have := h2.2.2.2.1
            refine (this.fr (Y := F) fun i a b => fx i (by omega) (by omega) (by omega) (by omega) (by omega) (by omega) (by omega) (by omega) (by omega) (by omega) (by omega) (by omega) (by omega)).ag n3.2.2.2.2.2.2.2.2.2.2.2.2.2.1 g14 fun k k0 k1 => gX k k0 (by omega)
          · rw [show (2 : Int) + 16 = 18 from rfl, fo 18 (by decide) (by decide) (by decide) (by decide) (by decide) (by decide), w18]
            exact ⟨p1, p2, fun q q0 q1 => p3 q (by rw [← hNG]; exact q0) q1, fun q q0 q1 => t6 q q0 (by rw [← hNG]; exact q1)⟩
          · rw [gS 2 (by omega)] at b1
            rw [e20, fo (X 0 3 + 4) (by omega) (by omega) (by omega) (by omega) (by omega) (by omega), wU (X 0 3 + 4) (by omega) (by omega) (by omega), uo (X 0 3 + 4) (by omega) (by omega) (by omega), l5 b b0 (by omega), v3.2.2 b b0 b1]
            exact y2.2.2 b b0 b1
        · rw [f121, gS 3 (by omega), s1.2.2.2.2.2.1.1]
          decide
        · rw [f03]
          intro b b0 b1
          have := n2.2.2.2.2.2.2 b b0 b1
          rw [fx (X 2 0 + 5) (by omega) (by omega) (by omega) (by omega) (by omega) (by omega) (by omega) (by omega) (by omega) (by omega) (by omega) (by omega) (by omega), fx (X 2 0 + 6) (by omega) (by omega) (by omega) (by omega) (by omega) (by omega) (by omega) (by omega) (by omega) (by omega) (by omega) (by omega) (by omega), fx (X 2 0 + 7) (by omega) (by omega) (by omega) (by omega) (by omega) (by omega) (by omega) (by omega) (by omega) (by omega) (by omega) (by omega) (by omega), fx (X 2 0 + 8) (by omega) (by omega) (by omega) (by omega) (by omega) (by omega) (by omega) (by omega) (by omega) (by omega) (by omega) (by omega) (by omega)]
          exact this
        · have e1 : F 35 1 = 0 := by rw [fo 35 (by decide) (by decide) (by decide) (by decide) (by decide) (by decide), wU 35 (by decide) (by decide) (by decide), hU, ms_ne (by decide), ms_ne (by decide), ms_ne (by decide), ms_ne (by decide), ms_at, if_pos ⟨rfl, rfl⟩]
          have e2 : F 120 10 = 0 := by rw [f120 10 (by decide) (by decide) (by decide), v8]
          refine ⟨⟨by rw [e1]; decide, by rw [e1]; decide, by rw [e1, e2]⟩, fun j j0 j1 => ?_⟩
          rw [e1] at j1
          omega
        · have e35 : ∀ k : Int, k ≠ 1 → F 35 k = Y 35 k := fun k hk => by rw [fo 35 (by decide) (by decide) (by decide) (by decide) (by decide) (by decide), wU 35 (by decide) (by decide) (by decide), hU, ms_ne (by decide), ms_ne (by decide), ms_ne (by decide), ms_ne (by decide), ms_at, if_neg (fun h => hk h.2)]
          have e16 : F 120 16 = 0 := by rw [hF, ms_at, if_neg (by decide), ms_at, if_pos ⟨rfl, rfl⟩]
          have e17 : F 120 17 = -1 := by rw [f120 17 (by decide) (by decide) (by decide), v2']
          unfold RX
          rw [e35 9 (by decide), e35 10 (by decide), y35, y36, e16, e17]
          exact ⟨⟨inI_s (by decide) (by decide), rfl⟩, inI_m1, rfl⟩
        · refine ⟨fun q hq => ?_, fun q q0 q1 => ?_⟩
          · rw [fo 41 (by decide) (by decide) (by decide) (by decide) (by decide) (by decide), w41']
            exact w41 q hq
          · rw [f130]
            exact t5 q q0 q1
        · obtain ⟨k1, k2, k3⟩ := h13
          refine ⟨by rw [f22]; omega, ?_, fun e => ?_⟩
          · rw [f120x 31 (by decide) (by decide) (by decide) (by decide), f120x 32 (by decide) (by decide) (by decide) (by decide), f120x 33 (by decide) (by decide) (by decide) (by decide), f120x 34 (by decide) (by decide) (by decide) (by decide), f22]
            exact ⟨k2.1, k2.2.1, k2.2.2.1, k2.2.2.2.1, by have := k2.2.2.2.2; omega⟩
          · rw [f120x 34 (by decide) (by decide) (by decide) (by decide), f22] at e
            have := k2.2.2.2.2
            omega
    · obtain ⟨Y, y1, y2, y3, y4, y5⟩ := s2 X rfl h4
      obtain ⟨W, hW⟩ : ∃ W : Mem, W = ms (ms Y 35 1 0) 0 16 9 := ⟨_, rfl⟩
      have yo : ∀ i : Int, i ≠ 35 → i ≠ 37 → (i < X 0 3 ∨ X 0 3 + 9 < i) → Y i = X i := fun i a b c => y5.1 i a (fun e => by
        rcases e with e | e
        · exact b e
        · omega)
      have wo : ∀ i : Int, i ≠ 0 → i ≠ 35 → i ≠ 37 → (i < X 0 3 ∨ X 0 3 + 9 < i) → W i = X i := fun i a b c d => by rw [hW, ms_ne a, ms_ne b, yo i b c d]
      have w0 : ∀ k : Int, k ≠ 16 → W 0 k = X 0 k := fun k hk => by rw [hW, ms_at, if_neg (fun h => hk h.2), ms_ne (by decide), yo 0 (by decide) (by decide) (by omega)]
      have w126 : W 126 = X 126 := wo 126 (by decide) (by decide) (by decide) (by omega)
      have w120 : W 120 = X 120 := wo 120 (by decide) (by decide) (by decide) (by omega)
      obtain ⟨V, v1, v2, v3, v4, v5, v6, v7, v8⟩ := s3 W (fun i a b => by rw [w126]; exact (f3 i a (by omega)).2) (by rw [w120]; omega) (by rw [w120]; omega)
      obtain ⟨F, hF⟩ : ∃ F : Mem, F = ms (ms V 120 16 f) 120 2 9 := ⟨_, rfl⟩
      have fo : ∀ i : Int, i ≠ 120 → i ≠ 121 → i ≠ 122 → i ≠ 127 → i ≠ 128 → F i = W i := fun i a b c d e => by rw [hF, ms_ne a, ms_ne a, v4 i a b c d e]
      have f120 : ∀ q : Int, q ≠ 2 → q ≠ 16 → (q < 10 ∨ (20 < q ∧ q < 24) ∨ 25 < q) → F 120 q = X 120 q := fun q a b c => by rw [hF, ms_at, if_neg (fun h => a h.2), ms_at, if_neg (fun h => b h.2), v5 q (by omega), w120]
      have f121 : ∀ q : Int, q < 1760 → F 121 q = X 121 q := fun q hq => by rw [hF, ms_ne (by decide), ms_ne (by decide), v6 q hq, wo 121 (by decide) (by decide) (by decide) (by omega)]
      have f122 : ∀ q : Int, q < 20 → F 122 q = X 122 q := fun q hq => by rw [hF, ms_ne (by decide), ms_ne (by decide), v7 q hq, wo 122 (by decide) (by decide) (by decide) (by omega)]
      have fx : ∀ i : Int, i ≠ 0 → i ≠ 35 → i ≠ 37 → i ≠ 120 → i ≠ 121 → i ≠ 122 → i ≠ 127 → i ≠ 128 → (i < X 0 3 ∨ X 0 3 + 9 < i) → F i = X i := fun i a b c d e f g h hh => by rw [fo i d e f g h, wo i a b c hh]
      have f0' : ∀ k : Int, k ≠ 16 → F 0 k = X 0 k := fun k hk => by rw [fo 0 (by decide) (by decide) (by decide) (by decide) (by decide), w0 k hk]
      have hcl := BD_cells n3
      refine ⟨-1, W, F, ?_, ?_, inI_m1, ?_, ?_⟩
      · unfold f_X11_river
        rw [c1_okk hn.1 hn.2, if_neg (by omega), c2_ok hn.1 hn.2 (by omega) (by omega), if_pos g.2, cm_ok hr, y1, cl_some, bd_eq, c1_0, n00, fail_eq, cl_some, hW]
      · have e16 : ms V 120 16 f 120 18 = f := by rw [ms_at, if_neg (by decide)]; exact v2
        rw [v1, B_X12_river_99, v2, c1_okk (by omega) (by omega), if_pos (by omega), B_X12_river_194]
        unfold f_X12_cells f_X12_taken
        rw [ax_ok (by decide) (by decide), ax_ok (by decide) (by decide), cl_some, v2, bd_eq, ms_at, if_neg (by decide), v2, c1_okk (by omega) (by omega), if_neg (by omega), refusem_eq, cl_some, cl_some, hF]
      · have a16 : F 0 16 = 9 := by rw [fo 0 (by decide) (by decide) (by decide) (by decide) (by decide), hW, ms_at, if_pos ⟨rfl, rfl⟩]
        have a2 : F 120 2 = 9 := by rw [hF, ms_at, if_pos ⟨rfl, rfl⟩]
        unfold RS at *
        rw [a16, a2, f0' 17 (by decide), f0' 18 (by decide), f120 3 (by decide) (by decide) (by decide), f120 4 (by decide) (by decide) (by decide)]
        exact ⟨⟨by decide, by decide, rfl⟩, hS.2⟩
      · obtain ⟨m1, m2, m3, m4, m5⟩ := keeps_tail (F := F) hZ (Or.inl (f120 22 (by decide) (by decide) (by decide))) (fun k hk => f0' k (by omega)) (fun q hq => f120 q (by omega) (by omega) (by omega)) (fun i hi a b => fx i (by omega) (by omega) (by omega) (by omega) (by omega) (by omega) (by omega) (by omega) (by omega)) (fun q _ hq => f121 q hq) (fun q _ hq => f122 q hq)
        have hp3 : F 0 3 = X 0 3 := f0' 3 (by decide)
        have hss : SS F 2 (X 121) (X 122) := h2.fr (fx 2 (by decide) (by decide) (by decide) (by decide) (by decide) (by decide) (by decide) (by decide) (by omega)) (fun i a b => fx i (by omega) (by omega) (by omega) (by omega) (by omega) (by omega) (by omega) (by omega) (by have := h1.1; omega)) (fun i a b => fx i (by have := h1.2.1; omega) (by have := h1.2.1; omega) (by have := h1.2.1; omega) (by have := h1.2.1; omega) (by have := h1.2.1; omega) (by have := h1.2.1; omega) (by have := h1.2.1; omega) (by have := h1.2.1; omega) (by have := h1.2.1; have := h1.1; omega)) (fx (2 + 16) (by decide) (by decide) (by decide) (by decide) (by decide) (by decide) (by decide) (by decide) (by omega))
        refine RZ.up ⟨?_, ?_, ?_, ?_, m1, m2, ?_, ?_, m3, m4, ?_, m5, ?_⟩
        · exact h1.fr (f0' 3 (by decide)) (f0' 4 (by decide)) (by rw [fx 2 (by decide) (by decide) (by decide) (by decide) (by decide) (by decide) (by decide) (by decide) (by omega)]) (by rw [fx 2 (by decide) (by decide) (by decide) (by decide) (by decide) (by decide) (by decide) (by decide) (by omega)]) (fx 69 (by decide) (by decide) (by decide) (by decide) (by decide) (by decide) (by decide) (by decide) (by omega)) (fx 86 (by decide) (by decide) (by decide) (by decide) (by decide) (by decide) (by decide) (by decide) (by omega)) (fx 103 (by decide) (by decide) (by decide) (by decide) (by decide) (by decide) (by decide) (by decide) (by omega))
        · exact hss.ext (fun k k0 k1 => f121 k (by omega)) (fun b b0 b1 => f122 b (by omega))
        · rw [f121 3 (by decide)]
          exact h3
        · rw [hp3]
          exact RB.fr y4 (fun i a b => by rw [fo i (by omega) (by omega) (by omega) (by omega) (by omega), hW, ms_ne (by omega), ms_ne (by omega)])
        · have e1 : F 35 1 = 0 := by rw [fo 35 (by decide) (by decide) (by decide) (by decide) (by decide), hW, ms_ne (by decide), ms_at, if_pos ⟨rfl, rfl⟩]
          have e2 : F 120 10 = 0 := by rw [hF, ms_at, if_neg (by decide), ms_at, if_neg (by decide), v8]
          refine ⟨⟨by rw [e1]; decide, by rw [e1]; decide, by rw [e1, e2]⟩, fun j j0 j1 => ?_⟩
          rw [e1] at j1
          omega
        · have e9 : F 35 9 = f := by rw [fo 35 (by decide) (by decide) (by decide) (by decide) (by decide), hW, ms_ne (by decide), ms_at, if_neg (by decide), y2]
          have e10 : F 35 10 = b := by rw [fo 35 (by decide) (by decide) (by decide) (by decide) (by decide), hW, ms_ne (by decide), ms_at, if_neg (by decide), y3]
          have e16 : F 120 16 = f := by rw [hF, ms_at, if_neg (by decide), ms_at, if_pos ⟨rfl, rfl⟩]
          have e17 : F 120 17 = b := by rw [hF, ms_at, if_neg (by decide), ms_at, if_neg (by decide), v3]
          exact ⟨⟨by rw [e9]; exact inI_s (by omega) (by omega), by rw [e9, e16]⟩, by rw [e10]; exact inI_s (by omega) (by omega), by rw [e10, e17]⟩
        · exact h11.fr (fx 41 (by decide) (by decide) (by decide) (by decide) (by decide) (by decide) (by decide) (by decide) (by omega)) (fx 130 (by decide) (by decide) (by decide) (by decide) (by decide) (by decide) (by decide) (by decide) (by omega))
        · exact CK.fr n3 h13 (f120 22 (by decide) (by decide) (by decide)) (f120 31 (by decide) (by decide) (by decide)) (f120 32 (by decide) (by decide) (by decide)) (f120 33 (by decide) (by decide) (by decide)) (f120 34 (by decide) (by decide) (by decide)) (fx 134 (by decide) (by decide) (by decide) (by decide) (by decide) (by decide) (by decide) (by decide) (by omega)) (fun k hk => f121 k (by omega))
  · have eb : f_X12_begins n 900 (ms X 0 16 1) = some (0, ms X 0 16 1) := by
      unfold f_X12_begins
      rw [c1_okk hn.1 hn.2]
      by_cases g0 : n < 0
      · rw [if_pos g0]
      · rw [if_neg g0, ms_ne (by decide), f2, c2_ok hn.1 hn.2 (by omega) (by omega), if_pos (by omega)]
    refine out_st h (r := -1) (v := 1) (by decide) (by decide) inI_m1 ?_ ?_
    · unfold f_X11_river
      rw [c1_okk hn.1 hn.2]
      by_cases g0 : n < 0
      · rw [if_pos g0, B_X11_river_15, fail_eq, cl_some]
      · rw [if_neg g0, c2_ok hn.1 hn.2 (by omega) (by omega), if_neg (fun e => g ⟨by omega, e⟩), B_X11_river_15, fail_eq, cl_some]
    · unfold f_X12_river
      rw [eb, cl_some, c1_0, n00, refusem_eq, cl_some]
