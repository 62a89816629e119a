/-! rules: the pair -/
theorem rule_103 {Z : Mem} : ∀ (K : Nat) (j : Int) (G : Int → Int), 200 ≤ j → j ≤ 440 → (440 - j).toNat < K → (∀ q : Int, 200 ≤ q → q < j → G q = Z 121 (1760 + q)) → (∀ q : Int, q < 200 ∨ j ≤ q → G q = Z 121 q) → ∃ G' : Int → Int, L_X12_rule_103 K j (ma Z 121 G) = B_X12_rule_132 (ma Z 121 G') ∧ (∀ q : Int, 200 ≤ q → q < 440 → G' q = Z 121 (1760 + q)) ∧ ∀ q : Int, q < 200 ∨ 440 ≤ q → G' q = Z 121 q := by
  intro K
  induction K with
  | zero => intro j G _ _ h; omega
  | succ K ih =>
    intro j G j0 j1 hK hG hG2
    rw [L_X12_rule_103, c2_ok (by omega) (by omega) (by decide) (by decide)]
    by_cases g : 440 ≤ j
    · rw [if_pos g]
      exact ⟨G, rfl, fun q q0 q1 => hG q q0 (by omega), fun q hq => hG2 q (by omega)⟩
    · rw [if_neg g, ax_ok (by omega) (by omega), ax_ok (by omega) (by omega), bd_eq, ma_same, hG2 (1760 + j) (by omega), ms_row]
      refine ih (j + 1) _ (by omega) (by omega) (by omega) (fun q q0 q1 => ?_) (fun q hq => ?_)
      · rw [up_at]
        by_cases e : q = j
        · rw [if_pos e, e]
        · rw [if_neg e]
          exact hG q q0 (by omega)
      · rw [up_ne (by omega)]
        exact hG2 q (by omega)
theorem rule_lay {V : Mem} (h18 : V 120 18 = 0) : ∃ G : Int → Int, B_X12_rule_77 V = B_X12_rule_132 (ma V 121 G) ∧ (∀ q : Int, 200 ≤ q → q < 440 → G q = V 121 (1760 + q)) ∧ G 14 = V 121 1774 ∧ ∀ q : Int, q ≠ 14 → q < 200 ∨ 440 ≤ q → G q = V 121 q := by
  obtain ⟨G, g1, g2, g3⟩ := rule_103 (Z := ms V 121 14 (V 121 1774)) KF 200 (ms V 121 14 (V 121 1774) 121) (by decide) (by decide) (by rw [KF_eq]; omega) (fun q _ _ => by omega) (fun q _ => rfl)
  rw [ma_self] at g1
  have eG : ma (ms V 121 14 (V 121 1774)) 121 G = ma V 121 G := by rw [ms_ma, ma_ma]
  rw [eG] at g1
  refine ⟨G, ?_, fun q q0 q1 => ?_, ?_, fun q a b => ?_⟩
  · rw [B_X12_rule_77, h18, c1_0, n00, ax_ok (by decide) (by decide), ax_ok (by decide) (by decide), bd_eq, g1]
  · rw [g2 q q0 q1, ms_at, if_neg (by omega)]
  · rw [g3 14 (by decide), ms_at, if_pos ⟨rfl, rfl⟩]
  · rw [g3 q b, ms_at, if_neg (fun h => a h.2)]
theorem q_rule : pair_9 REL := by
  intro n hn cn X hcn h
  obtain ⟨hS, hZ⟩ := id h
  obtain ⟨h1, h2, h3, h4, h5, h6, h7, h8, h9, h10, h11, h12, h13⟩ := id hZ
  obtain ⟨n1, n2, n3, n4, n5, n6⟩ := h.now
  obtain ⟨⟨f0, f1, f2⟩, f3⟩ := id h7
  show OUT cn (f_X11_rule n) (f_X12_rule n) X
  by_cases g : 0 ≤ n ∧ n ≤ X 35 1 ∧ n ≤ 300
  · have hT : TXT (X 36) n := ⟨⟨g.1, by omega⟩, fun i i0 i1 => (f3 i i0 (by omega)).1⟩
    have hp := h1.r
    obtain ⟨hu2, hu⟩ := h1.rul
    have hnm : ∀ b : Int, 0 ≤ b → b < X 121 2 → NM (X (X 2 0 + 4) b) (X 122 b) := h2.2.2.2.2.2.2
    have hN : ∀ b : Int, 0 ≤ b → b < X 121 2 → ∃ a : Int, NM a (X 122 b) := fun b b0 b1 => ⟨_, hnm b b0 b1⟩
    have hNX : NMX (X 2 0) (X 121 2) (X 122) X := ⟨n2.1.2.2.1, hnm⟩
    have u0 := u35 hu 0 (by decide) (by decide)
    rw [Int.add_zero] at u0
    have hNZ : ∀ W : Mem, W 121 = X 121 → W 122 = X 122 → NMZ (X 121 2) (X 122) W := fun W a b => ⟨by rw [a], fun c c0 c1 => by rw [b]⟩
    rcases rule_run hu n1 (by omega) g.2.2 hT n3.2.1 hN with ⟨S, ⟨s1, s1'⟩, s2, s3⟩ | ⟨f, b, s0, s1, s2, s3⟩
    · obtain ⟨Y, y1, ⟨y2, y35, y36⟩, y3⟩ := s2 X rfl hNX
      have hG := s1.1
      have yo : ∀ i : Int, i ≠ 35 → i ≠ 38 → i ≠ 39 → (i < X 0 4 ∨ X 0 4 + 4 < i) → Y i = X i := fun i a b c d => y3.1 i a (fun e => by
        rcases e with e | e | e
        · exact b e
        · exact c e
        · omega)
      obtain ⟨W, hW⟩ : ∃ W : Mem, W = ms (ms (ms (ms Y 35 1 0) 2 1 (X 0 4)) 0 4 (X 2 1)) 0 16 0 := ⟨_, rfl⟩
      have wo : ∀ i : Int, i ≠ 0 → i ≠ 2 → i ≠ 35 → W i = Y i := fun i a b c => by rw [hW, ms_ne a, ms_ne a, ms_ne b, ms_ne c]
      have wx : ∀ i : Int, i ≠ 0 → i ≠ 2 → i ≠ 35 → i ≠ 38 → i ≠ 39 → (i < X 0 4 ∨ X 0 4 + 4 < i) → W i = X i := fun i a b c d e f => by rw [wo i a b c, yo i c d e f]
      have w0 : ∀ k : Int, W 0 k = if k = 16 then 0 else if k = 4 then X 2 1 else X 0 k := fun k => by
        rw [hW, ms_at]
        by_cases e : k = 16
        · rw [if_pos ⟨rfl, e⟩, if_pos e]
        · rw [if_neg (fun h => e h.2), if_neg e, ms_at]
          by_cases e4 : k = 4
          · rw [if_pos ⟨rfl, e4⟩, if_pos e4]
          · rw [if_neg (fun h => e4 h.2), if_neg e4, ms_ne (by decide), ms_ne (by decide), yo 0 (by decide) (by decide) (by decide) (by omega)]
      have w2 : ∀ k : Int, W 2 k = if k = 1 then X 0 4 else X 2 k := fun k => by
        rw [hW, ms_ne (by decide), ms_ne (by decide), ms_at]
        by_cases e : k = 1
        · rw [if_pos ⟨rfl, e⟩, if_pos e]
        · rw [if_neg (fun h => e h.2), if_neg e, ms_ne (by decide), yo 2 (by decide) (by decide) (by decide) (by omega)]
      have w35 : ∀ k : Int, W 35 k = if k = 1 then 0 else Y 35 k := fun k => by
        rw [hW, ms_ne (by decide), ms_ne (by decide), ms_ne (by decide), ms_at]
        by_cases e : k = 1
        · rw [if_pos ⟨rfl, e⟩, if_pos e]
        · rw [if_neg (fun h => e h.2), if_neg e]
      have w126 : W 126 = X 126 := wx 126 (by decide) (by decide) (by decide) (by decide) (by decide) (by omega)
      have w120 : W 120 = X 120 := wx 120 (by decide) (by decide) (by decide) (by decide) (by decide) (by omega)
      have w121 : W 121 = X 121 := wx 121 (by decide) (by decide) (by decide) (by decide) (by decide) (by omega)
      have w122 : W 122 = X 122 := wx 122 (by decide) (by decide) (by decide) (by decide) (by decide) (by omega)
      obtain ⟨V, v1, ⟨v2, v2'⟩, v3, v4, v5, v6, v7, v8⟩ := s3 W (fun i a b => by rw [w126]; exact (f3 i a (by omega)).2) (by rw [w120]; omega) (by rw [w120]; omega) (hNZ W w121 w122)
      obtain ⟨G, l1, l2, l3, l4⟩ := rule_lay v2
      obtain ⟨F, hF⟩ : ∃ F : Mem, F = ms (ms (ma V 121 G) 120 16 0) 120 2 0 := ⟨_, rfl⟩
      have fo : ∀ i : Int, i ≠ 120 → i ≠ 121 → i ≠ 122 → i ≠ 127 → i ≠ 128 → i ≠ 129 → F i = W i := fun i a b c d e f => by rw [hF, ms_ne a, ms_ne a, ma_ne b, v4 i a b c d e f]
      have fV : ∀ q : Int, q ≠ 2 → q ≠ 16 → F 120 q = V 120 q := fun q a b => by rw [hF, ms_at, if_neg (fun h => a h.2), ms_at, if_neg (fun h => b h.2), ma_ne (by decide)]
      have f120 : ∀ q : Int, q ≠ 2 → q ≠ 16 → (q < 10 ∨ (20 < q ∧ q < 24) ∨ 25 < q) → F 120 q = X 120 q := fun q a b c => by rw [fV q a b, v5 q (by omega), w120]
      have f121 : F 121 = G := by rw [hF, ms_ne (by decide), ms_ne (by decide), ma_same]
      have f122 : ∀ q : Int, q < 20 → F 122 q = X 122 q := fun q hq => by rw [hF, ms_ne (by decide), ms_ne (by decide), ma_ne (by decide), v7 q hq, w122]
      have fx : ∀ i : Int, i ≠ 0 → i ≠ 2 → i ≠ 35 → i ≠ 38 → i ≠ 39 → i ≠ 120 → i ≠ 121 → i ≠ 122 → i ≠ 127 → i ≠ 128 → i ≠ 129 → (i < X 0 4 ∨ X 0 4 + 4 < i) → F i = X i := fun i a b c d e f g h k l o p => by rw [fo i f g h k l o, wx i a b c d e p]
      have f0' : ∀ k : Int, k ≠ 16 → k ≠ 4 → F 0 k = X 0 k := fun k a b => by rw [fo 0 (by decide) (by decide) (by decide) (by decide) (by decide) (by decide), w0, if_neg a, if_neg b]
      have f04 : F 0 4 = X 2 1 := by rw [fo 0 (by decide) (by decide) (by decide) (by decide) (by decide) (by decide), w0]; rfl
      have f2' : ∀ k : Int, F 2 k = if k = 1 then X 0 4 else X 2 k := fun k => by rw [fo 2 (by decide) (by decide) (by decide) (by decide) (by decide) (by decide), w2]
      have gX : ∀ q : Int, q ≠ 14 → (q < 200 ∨ (440 ≤ q ∧ q < 1760)) → G q = X 121 q := fun q a b => by rw [l4 q a (by omega), v6 q (by omega), w121]
      have g14 : G 14 = S.A 14 := by rw [l3]; exact v3.1.1
      have gR : ∀ k j : Int, 0 ≤ k → k < S.A 14 → 0 ≤ j → j < 4 → G (200 + 4 * k + j) = S.A (200 + 4 * k + j) := fun k j a b c d => by
        have h60 : S.A 14 ≤ 60 := by omega
        rw [l2 _ (by omega) (by omega)]
        have := v3.2.2.2 k j a b c d
        rw [show (1960 : Int) + 4 * k + j = 1760 + (200 + 4 * k + j) by omega] at this
        exact this
      have hBD : BD G := n3.ag (fun k hk => gX k (by omega) (by omega)) (by rw [g14]; omega)
      have hNG : NS G = NS (X 121) := by
        unfold NS
        rw [gX 2 (by decide) (by decide)]
      refine ⟨S.steps, W, F, ?_, ?_, inI_s (by omega) (by omega), ?_, ?_⟩
      · have e21 : ms Y 35 1 0 2 1 = X 2 1 := by rw [ms_ne (by decide), yo 2 (by decide) (by decide) (by decide) (by omega)]
        have e04 : ms Y 35 1 0 0 4 = X 0 4 := by rw [ms_ne (by decide), yo 0 (by decide) (by decide) (by decide) (by omega)]
        have eY04 : Y 0 4 = X 0 4 := by rw [yo 0 (by decide) (by decide) (by decide) (by omega)]
        have e21' : ms (ms (ms Y 35 1 0) 2 1 (X 0 4)) 0 4 (X 2 1) 2 1 = X 0 4 := by rw [ms_ne (by decide), ms_at, if_pos ⟨rfl, rfl⟩]
        have eu1 : ms (ms (ms Y 35 1 0) 2 1 (X 0 4)) 0 4 (X 2 1) (X 0 4) 1 = S.steps := by
          rw [ms_ne (by omega), ms_ne (by omega), ms_ne (by omega)]
          exact y2.1.2.2.2.2
        unfold f_X11_rule
        rw [c1_okk hn.1 hn.2, if_neg (by omega), c2_ok hn.1 hn.2 (by omega) (by omega), if_neg (by omega), c2_ok hn.1 hn.2 (by decide) (by decide), if_pos g.2.2, cm_ok hu, cm_ok n1, y1, cl_some, bd_eq, c1_1, n10, e21, cm_ok hu2, e04, cm_ok hu, bd_eq, bd_eq, e21', cm_ok hu, eu1, answer_eq, cl_some, hW]
      · have e18 : ma V 121 G 120 18 = 0 := by rw [ma_ne (by decide)]; exact v2
        have e25 : ma V 121 G 120 25 = S.steps := by rw [ma_ne (by decide)]; exact v3.1.2.2
        rw [v1, l1, B_X12_rule_132, e25]
        unfold f_X12_taken
        rw [e18, bd_eq, ms_at, if_neg (by decide), e18, c1_0, if_pos (by decide), gives_eq, cl_some, cl_some, hF]
      · have a16 : F 0 16 = 0 := by rw [fo 0 (by decide) (by decide) (by decide) (by decide) (by decide) (by decide), w0]; rfl
        have a2 : F 120 2 = 0 := by rw [hF, ms_at, if_pos ⟨rfl, rfl⟩]
        unfold RS at *
        rw [a16, a2, f0' 17 (by decide) (by decide), f0' 18 (by decide) (by decide), f120 3 (by decide) (by decide) (by decide), f120 4 (by decide) (by decide) (by decide)]
        exact ⟨⟨by decide, by decide, rfl⟩, hS.2⟩
      · obtain ⟨m1, m2, m3, m4, m5⟩ := keeps_tail (F := F) hZ (Or.inl (f120 22 (by decide) (by decide) (by decide))) (fun k hk => f0' k (by omega) (by omega)) (fun q hq => f120 q (by omega) (by omega) (by omega)) (fun i hi a b => fx i (by omega) (by omega) (by omega) (by omega) (by omega) (by omega) (by omega) (by omega) (by omega) (by omega) (by omega) (by omega)) (fun q q0 hq => by rw [f121]; exact gX q (by omega) (by omega)) (fun q _ hq => f122 q hq)
        obtain ⟨d1, d2, d3, d4, d5⟩ := id h1
        have e20 : F 2 0 = X 2 0 := by rw [f2']; rfl
        have e21 : F 2 1 = X 0 4 := by rw [f2']; rfl
        have e03 : F 0 3 = X 0 3 := f0' 3 (by decide) (by decide)
        refine RZ.up ⟨⟨by rw [e20, e03]; exact d1, ?_, ?_, ?_, ?_⟩, ?_, ?_, ?_, m1, m2, ?_, ?_, m3, m4, ?_, m5, ?_⟩
        · rw [e21, f04]
          rcases d2 with ⟨a, b⟩ | ⟨a, b⟩
          · exact Or.inr ⟨b, a⟩
          · exact Or.inl ⟨b, a⟩
        · rw [fx 69 (by decide) (by decide) (by decide) (by decide) (by decide) (by decide) (by decide) (by decide) (by decide) (by decide) (by decide) (by omega)]
          exact d3
        · rw [fx 86 (by decide) (by decide) (by decide) (by decide) (by decide) (by decide) (by decide) (by decide) (by decide) (by decide) (by decide) (by omega)]
          exact d4
        · rw [fx 103 (by decide) (by decide) (by decide) (by decide) (by decide) (by decide) (by decide) (by decide) (by decide) (by decide) (by decide) (by omega)]
          exact d5
        · rw [f121]
          refine ⟨?_, ?_, ?_, ?_, ?_, hBD, fun b b0 b1 => ?_⟩
          · rw [f2', gX 3 (by decide) (by decide)]; exact n4
          · rw [f2', gX 4 (by decide) (by decide)]; exact n5
          · rw [e20]
            exact (n2.fr (Y := F) fun i a b => fx i (by omega) (by omega) (by omega) (by omega) (by omega) (by omega) (by omega) (by omega) (by omega) (by omega) (by omega) (by omega)).ag n3 fun k hk => gX k (by omega) (by omega)
          · rw [e21]
            have u4 : ∀ j : Int, 0 ≤ j → j ≤ 4 → F (X 0 4 + j) = Y (X 0 4 + j) := fun j j0 j1 => by rw [fo _ (by omega) (by omega) (by omega) (by omega) (by omega) (by omega), wo _ (by omega) (by omega) (by omega)]
            have hF0 : F (X 0 4) = Y (X 0 4) := by
              have := u4 0 (by decide) (by decide)
              rw [Int.add_zero] at this
              exact this
            have hno : ∀ k : Int, ¬ isOp S k := fun k ⟨i, i0, i1, _⟩ => by rw [s1'] at i1; omega
            refine ⟨by rw [hF0, g14]; exact y2.1.2.2.2.1, fun k k0 k1 => ?_⟩
            rw [g14] at k1
            have a1 := y2.2.2.2.1 k k0 k1
            have a2 := y2.2.2.2.2 k k0 k1 (hno k)
            have q0 := gR k 0 k0 k1 (by decide) (by decide)
            rw [Int.add_zero] at q0
            unfold LNa at a1
            unfold LNb at a2
            unfold LN
            rw [u4 1 (by decide) (by decide), u4 2 (by decide) (by decide), u4 3 (by decide) (by decide), u4 4 (by decide) (by decide), q0, gR k 1 k0 k1 (by decide) (by decide), gR k 2 k0 k1 (by decide) (by decide), gR k 3 k0 k1 (by decide) (by decide), g14]
            exact ⟨a1.1, a1.2.1, a1.2.2.1, a1.2.2.2.1, a1.2.2.2.2.1, a1.2.2.2.2.2.1, a1.2.2.2.2.2.2, a2, fun hk0 => by rw [hk0]; exact s1.2.2.2.1 (by omega), s1.2.2.2.2.2 k k0 k1⟩
          · rw [fx (2 + 16) (by decide) (by decide) (by decide) (by decide) (by decide) (by decide) (by decide) (by decide) (by decide) (by decide) (by decide) (by omega)]
            have hN32 := NS_r n3.2.1
            exact ⟨n6.1, n6.2.1, fun q q0 q1 => n6.2.2.1 q (by rw [← hNG]; exact q0) q1, fun q q0 q1 => by
              rw [hNG] at q1
              rw [gX (168 + q) (by omega) (by omega)]
              exact n6.2.2.2 q q0 q1⟩
          · rw [gX 2 (by decide) (by decide)] at b1
            have := n3.2.1
            rw [e20, fx (X 2 0 + 4) (by omega) (by omega) (by omega) (by omega) (by omega) (by omega) (by omega) (by omega) (by omega) (by omega) (by omega) (by omega), f122 b (by omega)]
            exact hnm b b0 b1
        · rw [f121, gX 3 (by decide) (by decide)]
          exact h3
        · rw [e03]
          exact RB.fr h4 (fun i a b => fx i (by omega) (by omega) (by omega) (by omega) (by omega) (by omega) (by omega) (by omega) (by omega) (by omega) (by omega) (by omega))
        · have e1 : F 35 1 = 0 := by rw [fo 35 (by decide) (by decide) (by decide) (by decide) (by decide) (by decide), w35]; rfl
          have e2 : F 120 10 = 0 := by rw [fV 10 (by decide) (by decide), v8]
          refine ⟨⟨by rw [e1]; decide, by rw [e1]; decide, by rw [e1, e2]⟩, fun j j0 j1 => ?_⟩
          rw [e1] at j1
          omega
        · have e35 : ∀ k : Int, k ≠ 1 → F 35 k = Y 35 k := fun k hk => by rw [fo 35 (by decide) (by decide) (by decide) (by decide) (by decide) (by decide), w35, if_neg hk]
          have e16 : F 120 16 = 0 := by rw [hF, ms_at, if_neg (by decide), ms_at, if_pos ⟨rfl, rfl⟩]
          have e17 : F 120 17 = -1 := by rw [fV 17 (by decide) (by decide), v2']
          unfold RX
          rw [e35 9 (by decide), e35 10 (by decide), y35, y36, e16, e17]
          exact ⟨⟨inI_s (by decide) (by decide), rfl⟩, inI_m1, rfl⟩
        · exact h11.fr (fx 41 (by decide) (by decide) (by decide) (by decide) (by decide) (by decide) (by decide) (by decide) (by decide) (by decide) (by decide) (by omega)) (fx 130 (by decide) (by decide) (by decide) (by decide) (by decide) (by decide) (by decide) (by decide) (by decide) (by decide) (by decide) (by omega))
        · exact CK.fr n3 h13 (f120 22 (by decide) (by decide) (by decide)) (f120 31 (by decide) (by decide) (by decide)) (f120 32 (by decide) (by decide) (by decide)) (f120 33 (by decide) (by decide) (by decide)) (f120 34 (by decide) (by decide) (by decide)) (fx 134 (by decide) (by decide) (by decide) (by decide) (by decide) (by decide) (by decide) (by decide) (by decide) (by decide) (by decide) (by omega)) (fun k hk => by rw [f121]; exact gX k (by omega) (by omega))
    · obtain ⟨Y, y1, y2, y3, y5⟩ := s2 X rfl hNX
      obtain ⟨W, hW⟩ : ∃ W : Mem, W = ms (ms Y 35 1 0) 0 16 9 := ⟨_, rfl⟩
      have yo : ∀ i : Int, i ≠ 35 → i ≠ 38 → i ≠ 39 → (i < X 0 4 ∨ X 0 4 + 4 < i) → Y i = X i := fun i a b c d => y5.1 i a (fun e => by
        rcases e with e | e | e
        · exact b e
        · exact c e
        · omega)
      have wo : ∀ i : Int, i ≠ 0 → i ≠ 35 → i ≠ 38 → i ≠ 39 → (i < X 0 4 ∨ X 0 4 + 4 < i) → W i = X i := fun i a b c d e => by rw [hW, ms_ne a, ms_ne b, yo i b c d e]
      have w0 : ∀ k : Int, k ≠ 16 → W 0 k = X 0 k := fun k hk => by rw [hW, ms_at, if_neg (fun h => hk h.2), ms_ne (by decide), yo 0 (by decide) (by decide) (by decide) (by omega)]
      have w126 : W 126 = X 126 := wo 126 (by decide) (by decide) (by decide) (by decide) (by omega)
      have w120 : W 120 = X 120 := wo 120 (by decide) (by decide) (by decide) (by decide) (by omega)
      have w121 : W 121 = X 121 := wo 121 (by decide) (by decide) (by decide) (by decide) (by omega)
      have w122 : W 122 = X 122 := wo 122 (by decide) (by decide) (by decide) (by decide) (by omega)
      obtain ⟨V, v1, v2, v3, v4, v5, v6, v7, v8⟩ := s3 W (fun i a b => by rw [w126]; exact (f3 i a (by omega)).2) (by rw [w120]; omega) (by rw [w120]; omega) (hNZ W w121 w122)
      obtain ⟨F, hF⟩ : ∃ F : Mem, F = ms (ms V 120 16 f) 120 2 9 := ⟨_, rfl⟩
      have fo : ∀ i : Int, i ≠ 120 → i ≠ 121 → i ≠ 122 → i ≠ 127 → i ≠ 128 → i ≠ 129 → F i = W i := fun i a b c d e f => by rw [hF, ms_ne a, ms_ne a, v4 i a b c d e f]
      have f120 : ∀ q : Int, q ≠ 2 → q ≠ 16 → (q < 10 ∨ (20 < q ∧ q < 24) ∨ 25 < q) → F 120 q = X 120 q := fun q a b c => by rw [hF, ms_at, if_neg (fun h => a h.2), ms_at, if_neg (fun h => b h.2), v5 q (by omega), w120]
      have f121 : ∀ q : Int, q < 1760 → F 121 q = X 121 q := fun q hq => by rw [hF, ms_ne (by decide), ms_ne (by decide), v6 q hq, w121]
      have f122 : ∀ q : Int, q < 20 → F 122 q = X 122 q := fun q hq => by rw [hF, ms_ne (by decide), ms_ne (by decide), v7 q hq, w122]
      have fx : ∀ i : Int, i ≠ 0 → i ≠ 35 → i ≠ 38 → i ≠ 39 → i ≠ 120 → i ≠ 121 → i ≠ 122 → i ≠ 127 → i ≠ 128 → i ≠ 129 → (i < X 0 4 ∨ X 0 4 + 4 < i) → F i = X i := fun i a b c d e f g h k l o => by rw [fo i e f g h k l, wo i a b c d o]
      have f0' : ∀ k : Int, k ≠ 16 → F 0 k = X 0 k := fun k hk => by rw [fo 0 (by decide) (by decide) (by decide) (by decide) (by decide) (by decide), w0 k hk]
      refine ⟨-1, W, F, ?_, ?_, inI_m1, ?_, ?_⟩
      · unfold f_X11_rule
        rw [c1_okk hn.1 hn.2, if_neg (by omega), c2_ok hn.1 hn.2 (by omega) (by omega), if_neg (by omega), c2_ok hn.1 hn.2 (by decide) (by decide), if_pos g.2.2, cm_ok hu, cm_ok n1, y1, cl_some, bd_eq, c1_0, n00, fail_eq, cl_some, hW]
      · rw [v1, B_X12_rule_77, v2, c1_okk (by omega) (by omega), if_pos (by omega), B_X12_rule_132]
        unfold f_X12_taken
        rw [v2, bd_eq, ms_at, if_neg (by decide), v2, c1_okk (by omega) (by omega), if_neg (by omega), refusem_eq, cl_some, cl_some, hF]
      · have a16 : F 0 16 = 9 := by rw [fo 0 (by decide) (by decide) (by decide) (by decide) (by decide) (by decide), hW, ms_at, if_pos ⟨rfl, rfl⟩]
        have a2 : F 120 2 = 9 := by rw [hF, ms_at, if_pos ⟨rfl, rfl⟩]
        unfold RS at *
        rw [a16, a2, f0' 17 (by decide), f0' 18 (by decide), f120 3 (by decide) (by decide) (by decide), f120 4 (by decide) (by decide) (by decide)]
        exact ⟨⟨by decide, by decide, rfl⟩, hS.2⟩
      · obtain ⟨m1, m2, m3, m4, m5⟩ := keeps_tail (F := F) hZ (Or.inl (f120 22 (by decide) (by decide) (by decide))) (fun k hk => f0' k (by omega)) (fun q hq => f120 q (by omega) (by omega) (by omega)) (fun i hi a b => fx i (by omega) (by omega) (by omega) (by omega) (by omega) (by omega) (by omega) (by omega) (by omega) (by omega) (by omega)) (fun q _ hq => f121 q hq) (fun q _ hq => f122 q hq)
        have d1 := h1.1
        have d2 := h1.2.1
        have hf2 : F 2 = X 2 := fx 2 (by decide) (by decide) (by decide) (by decide) (by decide) (by decide) (by decide) (by decide) (by decide) (by decide) (by omega)
        have hss : SS F 2 (X 121) (X 122) := h2.fr hf2 (fun i a b => fx i (by omega) (by omega) (by omega) (by omega) (by omega) (by omega) (by omega) (by omega) (by omega) (by omega) (by omega)) (fun i a b => fx i (by omega) (by omega) (by omega) (by omega) (by omega) (by omega) (by omega) (by omega) (by omega) (by omega) (by omega)) (fx (2 + 16) (by decide) (by decide) (by decide) (by decide) (by decide) (by decide) (by decide) (by decide) (by decide) (by decide) (by omega))
        refine RZ.up ⟨?_, ?_, ?_, ?_, m1, m2, ?_, ?_, m3, m4, ?_, m5, ?_⟩
        · exact h1.fr (f0' 3 (by decide)) (f0' 4 (by decide)) (by rw [hf2]) (by rw [hf2]) (fx 69 (by decide) (by decide) (by decide) (by decide) (by decide) (by decide) (by decide) (by decide) (by decide) (by decide) (by omega)) (fx 86 (by decide) (by decide) (by decide) (by decide) (by decide) (by decide) (by decide) (by decide) (by decide) (by decide) (by omega)) (fx 103 (by decide) (by decide) (by decide) (by decide) (by decide) (by decide) (by decide) (by decide) (by decide) (by decide) (by omega))
        · exact hss.ext (fun k k0 k1 => f121 k (by omega)) (fun b b0 b1 => f122 b (by omega))
        · rw [f121 3 (by decide)]
          exact h3
        · rw [f0' 3 (by decide)]
          exact RB.fr h4 (fun i a b => fx i (by omega) (by omega) (by omega) (by omega) (by omega) (by omega) (by omega) (by omega) (by omega) (by omega) (by omega))
        · have e1 : F 35 1 = 0 := by rw [fo 35 (by decide) (by decide) (by decide) (by decide) (by decide) (by decide), hW, ms_ne (by decide), ms_at, if_pos ⟨rfl, rfl⟩]
          have e2 : F 120 10 = 0 := by rw [hF, ms_at, if_neg (by decide), ms_at, if_neg (by decide), v8]
          refine ⟨⟨by rw [e1]; decide, by rw [e1]; decide, by rw [e1, e2]⟩, fun j j0 j1 => ?_⟩
          rw [e1] at j1
          omega
        · have e9 : F 35 9 = f := by rw [fo 35 (by decide) (by decide) (by decide) (by decide) (by decide) (by decide), hW, ms_ne (by decide), ms_at, if_neg (by decide), y2]
          have e10 : F 35 10 = b := by rw [fo 35 (by decide) (by decide) (by decide) (by decide) (by decide) (by decide), hW, ms_ne (by decide), ms_at, if_neg (by decide), y3]
          have e16 : F 120 16 = f := by rw [hF, ms_at, if_neg (by decide), ms_at, if_pos ⟨rfl, rfl⟩]
          have e17 : F 120 17 = b := by rw [hF, ms_at, if_neg (by decide), ms_at, if_neg (by decide), v3]
          exact ⟨⟨by rw [e9]; exact inI_s (by omega) (by omega), by rw [e9, e16]⟩, by rw [e10]; exact inI_s (by omega) (by omega), by rw [e10, e17]⟩
        · exact h11.fr (fx 41 (by decide) (by decide) (by decide) (by decide) (by decide) (by decide) (by decide) (by decide) (by decide) (by decide) (by omega)) (fx 130 (by decide) (by decide) (by decide) (by decide) (by decide) (by decide) (by decide) (by decide) (by decide) (by decide) (by omega))
        · exact CK.fr n3 h13 (f120 22 (by decide) (by decide) (by decide)) (f120 31 (by decide) (by decide) (by decide)) (f120 32 (by decide) (by decide) (by decide)) (f120 33 (by decide) (by decide) (by decide)) (f120 34 (by decide) (by decide) (by decide)) (fx 134 (by decide) (by decide) (by decide) (by decide) (by decide) (by decide) (by decide) (by decide) (by decide) (by decide) (by omega)) (fun k hk => f121 k (by omega))
  · have eb : f_X12_begins n 300 (ms X 0 16 1) = some (0, ms X 0 16 1) := by
      unfold f_X12_begins
      rw [c1_okk hn.1 hn.2]
      by_cases g0 : n < 0
      · rw [if_pos g0]
      · rw [if_neg g0, ms_ne (by decide), f2, c2_ok hn.1 hn.2 (by omega) (by omega)]
        by_cases g1 : X 35 1 < n
        · rw [if_pos g1]
        · rw [if_neg g1, c2_ok hn.1 hn.2 (by decide) (by decide), if_neg (by omega)]
    refine out_st h (r := -1) (v := 1) (by decide) (by decide) inI_m1 ?_ ?_
    · unfold f_X11_rule
      rw [c1_okk hn.1 hn.2]
      by_cases g0 : n < 0
      · rw [if_pos g0, B_X11_rule_22, fail_eq, cl_some]
      · rw [if_neg g0, c2_ok hn.1 hn.2 (by omega) (by omega)]
        by_cases g1 : X 35 1 < n
        · rw [if_pos g1, B_X11_rule_22, fail_eq, cl_some]
        · rw [if_neg g1, c2_ok hn.1 hn.2 (by decide) (by decide), if_neg (by omega), B_X11_rule_22, fail_eq, cl_some]
    · unfold f_X12_rule
      rw [eb, cl_some, c1_0, n00, refusem_eq, cl_some]
