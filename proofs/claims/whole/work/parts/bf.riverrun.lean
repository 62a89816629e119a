/-! rivers: both runs over a text -/
def FrN (Z Y : Mem) : Prop := (∀ i : Int, i ≠ 120 → i ≠ 121 → i ≠ 122 → i ≠ 127 → i ≠ 128 → Y i = Z i) ∧ (∀ q : Int, q < 10 ∨ q = 16 ∨ (20 < q ∧ q < 24) ∨ 25 < q → Y 120 q = Z 120 q) ∧ (∀ q : Int, q < 1760 → Y 121 q = Z 121 q) ∧ (∀ q : Int, q < 20 → Y 122 q = Z 122 q) ∧ Y 120 10 = 0
/-- the reference's text laid out -/
theorem begins_26 {Z : Mem} {T : Int → Int} {n : Int} (hT : TXT T n) (h126 : ∀ i : Int, 0 ≤ i → i < n → Z 126 i = T i) : ∀ (K : Nat) (j : Int) (G : Int → Int), 0 ≤ j → j ≤ n → (n - j).toNat < K → (∀ i : Int, 0 ≤ i → i < j → G i = T i) → ∃ G' : Int → Int, L_X12_begins_26 K n j (ma Z 127 G) = B_X12_begins_49 (ma Z 127 G') ∧ ∀ i : Int, 0 ≤ i → i < n → G' i = T i := by
  have hn := hT.1
  intro K
  induction K with
  | zero => intro j G _ _ h; omega
  | succ K ih =>
    intro j G j0 j1 hK hG
    rw [L_X12_begins_26, c2_ok (by omega) (by omega) (by omega) (by omega)]
    by_cases g : n ≤ j
    · rw [if_pos g]
      exact ⟨G, rfl, fun i i0 i1 => hG i i0 (by omega)⟩
    · have ht := hT.2 j j0 (by omega)
      rw [if_neg g, ax_ok (by omega) (by omega), ax_ok (by omega) (by omega), bd_eq, ma_ne (show (126 : Int) ≠ 127 by decide), h126 j j0 (by omega), (by_r ht).1, ms_row]
      refine ih (j + 1) _ (by omega) (by omega) (by omega) fun i i0 i1 => ?_
      rw [up_at]
      by_cases e : i = j
      · rw [if_pos e, e]
      · rw [if_neg e]
        exact hG i i0 (by omega)
/-- the reference begins a text -/
theorem begins_eq {Z : Mem} {T : Int → Int} {n m : Int} (hT : TXT T n) (h126 : ∀ i : Int, 0 ≤ i → i < n → Z 126 i = T i) (hm : n ≤ m ∧ m ≤ 900) (h10 : Z 120 10 ≤ 900 ∧ n ≤ Z 120 10) : ∃ Y : Mem, f_X12_begins n m Z = some (1, Y) ∧ MSt Y T n (nx T n 0) ∧ (Y 120 18 = 0 ∧ Y 120 17 = -1) ∧ Y 120 19 = 0 ∧ Y 121 = Z 121 ∧ Y 122 = Z 122 ∧ FrN Z Y := by
  have hn := hT.1
  obtain ⟨G, g1, g2⟩ := begins_26 (Z := ms Z 120 11 n) hT (fun i a b => by rw [ms_ne (by decide)]; exact h126 i a b) KF 0 (ms Z 120 11 n 127) (by decide) (by omega) (by rw [KF_eq]; omega) (fun i _ _ => by omega)
  rw [ma_self] at g1
  obtain ⟨V, hV⟩ : ∃ V : Mem, V = ms (ms (ms (ms (ms (ma (ms Z 120 11 n) 127 G) 120 10 0) 120 18 0) 120 17 (-1)) 120 14 0) 120 19 0 := ⟨_, rfl⟩
  have v127 : V 127 = G := by rw [hV, ms_ne (by decide), ms_ne (by decide), ms_ne (by decide), ms_ne (by decide), ms_ne (by decide), ma_same]
  have v120 : ∀ q : Int, V 120 q = if q = 19 then 0 else if q = 14 then 0 else if q = 17 then -1 else if q = 18 then 0 else if q = 10 then 0 else if q = 11 then n else Z 120 q := fun q => by
    rw [hV, ms_at]
    by_cases a : q = 19
    · rw [if_pos ⟨rfl, a⟩, if_pos a]
    · rw [if_neg (fun h => a h.2), if_neg a, ms_at]
      by_cases b : q = 14
      · rw [if_pos ⟨rfl, b⟩, if_pos b]
      · rw [if_neg (fun h => b h.2), if_neg b, ms_at]
        by_cases c : q = 17
        · rw [if_pos ⟨rfl, c⟩, if_pos c]
        · rw [if_neg (fun h => c h.2), if_neg c, ms_at]
          by_cases d : q = 18
          · rw [if_pos ⟨rfl, d⟩, if_pos d]
          · rw [if_neg (fun h => d h.2), if_neg d, ms_at]
            by_cases e : q = 10
            · rw [if_pos ⟨rfl, e⟩, if_pos e]
            · rw [if_neg (fun h => e h.2), if_neg e, ma_ne (by decide), ms_at]
              by_cases f : q = 11
              · rw [if_pos ⟨rfl, f⟩, if_pos f]
              · rw [if_neg (fun h => f h.2), if_neg f]
  have vo : ∀ i : Int, i ≠ 120 → i ≠ 127 → V i = Z i := fun i a b => by rw [hV, ms_ne a, ms_ne a, ms_ne a, ms_ne a, ms_ne a, ma_ne b, ms_ne a]
  obtain ⟨R, r1, r2, r3⟩ := (Classical.choose_spec (nx_ex T n 0) hT (Int.le_refl _) (by omega)).2.2.2 V (fun i a b => by rw [v127]; exact g2 i a b) (by rw [v120 11]; rfl) (by rw [v120 14]; rfl)
  refine ⟨ma V 120 R, ?_, r2, ?_, ?_, ?_, ?_, ⟨fun i a b c d e => by rw [ma_ne a, vo i a d], fun q hq => ?_, fun q _ => by rw [ma_ne (by decide), vo 121 (by decide) (by decide)], fun q _ => by rw [ma_ne (by decide), vo 122 (by decide) (by decide)], ?_⟩⟩
  · unfold f_X12_begins
    rw [c1_okk (by omega) (by omega), if_neg (by omega), c2_ok (by omega) (by omega) (by omega) (by omega), if_neg (by omega), c2_ok (by omega) (by omega) (by omega) (by omega), if_pos hm.1, bd_eq, g1, B_X12_begins_49, bd_eq, bd_eq, bd_eq, bd_eq, bd_eq, ← hV, r1, cl_some]
  · exact ⟨by rw [ma_same, r3 18 (by decide), v120 18]; rfl, by rw [ma_same, r3 17 (by decide), v120 17]; rfl⟩
  · rw [ma_same, r3 19 (by decide), v120 19]; rfl
  · rw [ma_ne (by decide), vo 121 (by decide) (by decide)]
  · rw [ma_ne (by decide), vo 122 (by decide) (by decide)]
  · rw [ma_same, r3 q (by omega), v120 q, if_neg (by omega), if_neg (by omega), if_neg (by omega), if_neg (by omega), if_neg (by omega), if_neg (by omega)]
  · rw [ma_same, r3 10 (by decide), v120 10]; rfl
theorem FrN.of {s : Int} {Z Y V : Mem} (h : FrN Z Y) (g : FrT s Y V) : FrN Z V := by
  obtain ⟨h1, h2, h3, h4, h5⟩ := h
  obtain ⟨g1, g2, g3, g4⟩ := g
  exact ⟨fun i a b c d e => by rw [g1 i a b c e, h1 i a b c d e], fun q hq => by rw [g2 q (by omega), h2 q hq], fun q hq => by rw [g3 q hq, h3 q hq], fun q hq => by rw [g4 q hq, h4 q hq], by rw [g2 10 (by omega), h5]⟩
/-- the class begins a text -/
theorem start8_eq {X : Mem} {T : Int → Int} {n : Int} (hT : TXT T n) (h36 : X 36 = T) : ∃ Y : Mem, f_X8_start n X = some (0, Y) ∧ CSt Y T n (nx T n 0) ∧ (∀ i : Int, i ≠ 35 → Y i = X i) ∧ (∀ q : Int, q < 2 ∨ 10 < q → Y 35 q = X 35 q) ∧ Y 35 9 = 0 ∧ Y 35 10 = -1 := by
  have hn := hT.1
  obtain ⟨V, hV⟩ : ∃ V : Mem, V = ms (ms (ms (ms X 35 2 n) 35 3 0) 35 9 0) 35 10 (-1) := ⟨_, rfl⟩
  have vo : ∀ i : Int, i ≠ 35 → V i = X i := fun i a => by rw [hV, ms_ne a, ms_ne a, ms_ne a, ms_ne a]
  have v2 : V 35 2 = n := by rw [hV, ms_at, if_neg (by decide), ms_at, if_neg (by decide), ms_at, if_neg (by decide), ms_at, if_pos ⟨rfl, rfl⟩]
  have v3 : V 35 3 = 0 := by rw [hV, ms_at, if_neg (by decide), ms_at, if_neg (by decide), ms_at, if_pos ⟨rfl, rfl⟩]
  have vq : ∀ q : Int, q < 2 ∨ 10 < q → V 35 q = X 35 q := fun q hq => by rw [hV, ms_at, if_neg (by omega), ms_at, if_neg (by omega), ms_at, if_neg (by omega), ms_at, if_neg (by omega)]
  obtain ⟨R, r1, r2, r3⟩ := (Classical.choose_spec (nx_ex T n 0) hT (Int.le_refl _) (by omega)).2.2.1 V (by rw [vo 36 (by decide)]; exact h36) v2 v3
  refine ⟨ma V 35 R, ?_, r2, fun i a => by rw [ma_ne a, vo i a], fun q hq => by rw [ma_same, r3 q (by omega), vq q hq], by rw [ma_same, r3 9 (by decide), hV, ms_at, if_neg (by decide), ms_at, if_pos ⟨rfl, rfl⟩], by rw [ma_same, r3 10 (by decide), hV, ms_at, if_pos ⟨rfl, rfl⟩]⟩
  unfold f_X8_start
  rw [bd_eq, bd_eq, bd_eq, bd_eq, ← hV, r1, cl_some]
theorem FrB.tr {s : Int} {W : Int → Prop} {X Y Z : Mem} (h : FrB W X Y) (g : FrS s W Y Z) : FrB W X Z := ⟨fun i a b => by rw [g.1 i a b, h.1 i a b], fun q a => by rw [g.2 q (by omega), h.2 q a]⟩
theorem river_run {T : Int → Int} {n r : Int} (hr : r ∈ RIV) (hT : TXT T n) :
    (∃ S' : Riv, GdR S' ∧ (∀ X : Mem, X 36 = T → RB X r → ∃ Y : Mem, f_X3_parse n r X = some (1, Y) ∧ (PCR r S' Y ∧ Y 35 9 = 0 ∧ Y 35 10 = -1) ∧ FrB (WR r) X Y) ∧ ∀ Z : Mem, (∀ i : Int, 0 ≤ i → i < n → Z 126 i = T i) → Z 120 10 ≤ 900 → n ≤ Z 120 10 → ∃ Y : Mem, f_X12_river n Z = B_X12_river_99 Y ∧ (Y 120 18 = 0 ∧ Y 120 17 = -1) ∧ PMR S' Y ∧ FrN Z Y) ∨
    (∃ f b : Int, (1 ≤ f ∧ f ≤ 7) ∧ (0 ≤ b ∧ b ≤ 900) ∧ (∀ X : Mem, X 36 = T → RB X r → ∃ Y : Mem, f_X3_parse n r X = some (0, Y) ∧ Y 35 9 = f ∧ Y 35 10 = b ∧ RB Y r ∧ FrB (WR r) X Y) ∧ ∀ Z : Mem, (∀ i : Int, 0 ≤ i → i < n → Z 126 i = T i) → Z 120 10 ≤ 900 → n ≤ Z 120 10 → ∃ Y : Mem, f_X12_river n Z = B_X12_river_99 Y ∧ Y 120 18 = f ∧ Y 120 17 = b ∧ FrN Z Y) := by
  have hrr := RIV_c hr
  have hn := hT.1
  obtain ⟨k1, k2⟩ := nx_k hT (Int.le_refl 0) hn.1
  obtain ⟨v0, v1, v2, v3, v4, v5, v6, v7, v8, v9, v10, v11, v12, v13, v14⟩ := plA_v
  have stX : ∀ X : Mem, X 36 = T → RB X r → ∃ Y : Mem, f_X3_parse n r X = (cl (f_X3_takeSize Y) fun r12 X13 => c1 r12 <| if ¬ r12 = 0 then L_X3_parse_56 KF 0 X13 else some (0, X13)) ∧ CSt Y T n (nx T n 0) ∧ (PCR r S0 Y ∧ Y 35 9 = 0 ∧ Y 35 10 = -1) ∧ FrB (WR r) X Y := fun X h36 hb => by
    obtain ⟨V, hV⟩ : ∃ V : Mem, V = ms (ms (ms (ms (ms (clr r (ms X 37 1 r)) 37 2 0) 37 3 0) 37 4 0) 37 5 0) 37 6 0 := ⟨_, rfl⟩
    have vo : ∀ i : Int, i ≠ 37 → (i < r ∨ r + 3 < i) → V i = X i := fun i a b => by rw [hV, ms_ne a, ms_ne a, ms_ne a, ms_ne a, ms_ne a, clr_o b, ms_ne a]
    have vr : ∀ i : Int, r ≤ i → i ≤ r + 9 → V i = clr r (ms X 37 1 r) i := fun i a b => by rw [hV, ms_ne (by omega), ms_ne (by omega), ms_ne (by omega), ms_ne (by omega), ms_ne (by omega)]
    have c37 : clr r (ms X 37 1 r) 37 1 = r := by rw [clr_o (by omega), ms_at, if_pos ⟨rfl, rfl⟩]
    have v37 : V 37 1 = r ∧ V 37 2 = 0 ∧ V 37 3 = 0 ∧ V 37 4 = 0 ∧ V 37 5 = 0 ∧ V 37 6 = 0 := by
      rw [hV]
      refine ⟨?_, ?_, ?_, ?_, ?_, ?_⟩
      · rw [ms_at, if_neg (by decide), ms_at, if_neg (by decide), ms_at, if_neg (by decide), ms_at, if_neg (by decide), ms_at, if_neg (by decide), c37]
      · rw [ms_at, if_neg (by decide), ms_at, if_neg (by decide), ms_at, if_neg (by decide), ms_at, if_neg (by decide), ms_at, if_pos ⟨rfl, rfl⟩]
      · rw [ms_at, if_neg (by decide), ms_at, if_neg (by decide), ms_at, if_neg (by decide), ms_at, if_pos ⟨rfl, rfl⟩]
      · rw [ms_at, if_neg (by decide), ms_at, if_neg (by decide), ms_at, if_pos ⟨rfl, rfl⟩]
      · rw [ms_at, if_neg (by decide), ms_at, if_pos ⟨rfl, rfl⟩]
      · rw [ms_at, if_pos ⟨rfl, rfl⟩]
    have hRV : RV V r plA := RV.fr (clr_RV (X := ms X 37 1 r) (RB.fr hb fun i a b => ms_ne (by omega))) (fun i a b => vr i a b)
    obtain ⟨Y, y1, y2, y3, y4, y5, y6⟩ := start8_eq (X := V) hT (by rw [vo 36 (by decide) (by omega)]; exact h36)
    refine ⟨Y, ?_, y2, ⟨⟨by rw [y3 37 (by decide)]; exact v37, hRV.fr (fun i a b => y3 i (by omega)), fun b b0 b1 => ?_⟩, y5, y6⟩, ⟨fun i a b => ?_, fun q hq => ?_⟩⟩
    · unfold f_X3_parse
      rw [bd_eq, ms_at, if_pos ⟨rfl, rfl⟩, cm_ok hr, clear_eq, cl_some, bd_eq, cz_0, bd_eq, cz_0, bd_eq, cz_0, bd_eq, cz_0, bd_eq, ← hV, y1, cl_some]
    · have b1 : b < plA 2 := b1
      omega
    · rw [y3 i a, vo i (fun e => b (Or.inl e)) (by
        by_cases h : r ≤ i ∧ i ≤ r + 9
        · exact absurd (Or.inr h) b
        · omega)]
    · rw [y4 q (by omega), vo 35 (by decide) (by omega)]
  have stZ : ∀ Z : Mem, (∀ i : Int, 0 ≤ i → i < n → Z 126 i = T i) → Z 120 10 ≤ 900 → n ≤ Z 120 10 → ∃ Y : Mem, f_X12_river n Z = cl (szZ Y) rvC ∧ MSt Y T n (nx T n 0) ∧ (Y 120 18 = 0 ∧ Y 120 17 = -1) ∧ PMR S0 Y ∧ FrN Z Y := fun Z h126 h10 h10' => by
    obtain ⟨Y, y1, y2, y3, y4, y5, y6, y7⟩ := begins_eq (m := 900) hT h126 ⟨hn.2, by decide⟩ ⟨h10, h10'⟩
    obtain ⟨V, hV⟩ : ∃ V : Mem, V = ms (ma Y 121 (plF (Y 121) 1760)) 120 20 0 := ⟨_, rfl⟩
    have v121 : V 121 = plF (Y 121) 1760 := by rw [hV, ms_ne (by decide), ma_same]
    have vo : ∀ i : Int, i ≠ 120 → i ≠ 121 → V i = Y i := fun i a b => by rw [hV, ms_ne a, ma_ne b]
    have vq : ∀ q : Int, q ≠ 20 → V 120 q = Y 120 q := fun q hq => by rw [hV, ms_at, if_neg (fun h => hq h.2), ma_ne (by decide)]
    refine ⟨V, ?_, y2.fr (vo 127 (by decide) (by decide)) (fun q a b => vq q (by omega)), ⟨by rw [vq 18 (by decide)]; exact y3.1, by rw [vq 17 (by decide)]; exact y3.2⟩, ⟨⟨?_, by rw [vq 19 (by decide)]; exact y4⟩, fun q q0 q1 => by rw [v121]; exact plA_s q0 q1, fun b b0 b1 => ?_⟩, y7.of (s := 8) ⟨fun i a b _ _ => vo i a b, fun q hq => vq q (by omega), fun q hq => by rw [v121]; exact plF_o hq, fun q _ => by rw [vo 122 (by decide) (by decide)]⟩⟩
    · unfold f_X12_river
      rw [y1, cl_some, c1_1, n10, plain_eq (by decide) (by decide), cl_some, bd_eq, ← hV]
      exact szZ_eq
    · rw [hV, ms_at, if_pos ⟨rfl, rfl⟩]
      rfl
    · have b1 : b < plA 2 := b1
      omega
  rcases part_size (t := nx T n 0) hr hn.2 hT k1 with ⟨t', S', h1, h2, h3, h4, h5⟩ | ⟨f, b, h1, h2, h4, h5⟩
  · have hs' : GdR S' := h3
    have e79 : ∀ Z : Mem, rvC 1 Z = L_X12_river_80 KF 1 Z := fun Z => rfl
    rcases parse_loop hr hn.2 hT KF 0 t' S' (by rw [KF_eq]; omega) h2 hs' h1 with ⟨S2, a1, a2, a3⟩ | ⟨f, b, a0, a1, a2, a3⟩
    · refine Or.inl ⟨S2, a1, fun X h36 hb => ?_, fun Z h126 h10 h10' => ?_⟩
      · obtain ⟨U, u1, u2, u3, u4⟩ := stX X h36 hb
        obtain ⟨Y, y1, y2, y3, y4⟩ := h4 U u2 u3.1
        obtain ⟨V, v1, v2, v3⟩ := a2 Y y2 y3
        have hf := y4.trans v3
        exact ⟨V, by rw [u1, y1, cl_some, c1_1, n10]; exact v1, ⟨v2, by rw [hf.2 9 (by decide)]; exact u3.2.1, by rw [hf.2 10 (by decide)]; exact u3.2.2⟩, FrB.tr u4 hf⟩
      · obtain ⟨U, u1, u2, u3, u4, u5⟩ := stZ Z h126 h10 h10'
        obtain ⟨Y, y1, y2, y3, y4, y5⟩ := h5 U u2 u3.1 u4
        obtain ⟨V, v1, v2, v3, v4⟩ := a3 Y y2 y3 y4
        have hf := y5.trans v4
        exact ⟨V, by rw [u1, y1, cl_some, e79, v1], ⟨v2, by rw [hf.2.1 17 (by decide)]; exact u3.2⟩, v3, u5.of hf⟩
    · refine Or.inr ⟨f, b, a0, a1, fun X h36 hb => ?_, fun Z h126 h10 h10' => ?_⟩
      · obtain ⟨U, u1, u2, u3, u4⟩ := stX X h36 hb
        obtain ⟨Y, y1, y2, y3, y4⟩ := h4 U u2 u3.1
        obtain ⟨V, v1, v2, v3, v4, v5⟩ := a2 Y y2 y3
        exact ⟨V, by rw [u1, y1, cl_some, c1_1, n10]; exact v1, v2, v3, v4, FrB.tr u4 (y4.trans v5)⟩
      · obtain ⟨U, u1, u2, u3, u4, u5⟩ := stZ Z h126 h10 h10'
        obtain ⟨Y, y1, y2, y3, y4, y5⟩ := h5 U u2 u3.1 u4
        obtain ⟨V, v1, v2, v3, v4⟩ := a3 Y y2 y3 y4
        exact ⟨V, by rw [u1, y1, cl_some, e79, v1], v2, v3, u5.of (y5.trans v4)⟩
  · refine Or.inr ⟨f, b, h1, h2, fun X h36 hb => ?_, fun Z h126 h10 h10' => ?_⟩
    · obtain ⟨U, u1, u2, u3, u4⟩ := stX X h36 hb
      obtain ⟨Y, y1, y2, y3, y4, y5⟩ := h4 U u2 u3.1
      exact ⟨Y, by rw [u1, y1, cl_some, c1_0, n00], y2, y3, y4, FrB.tr u4 y5⟩
    · obtain ⟨U, u1, u2, u3, u4, u5⟩ := stZ Z h126 h10 h10'
      obtain ⟨Y, y1, y2, y3, y4⟩ := h5 U u2 u3.1 u4
      have e79 : rvC 0 Y = B_X12_river_99 Y := by
        obtain ⟨k', hk⟩ : ∃ k' : Nat, KF = k' + 1 := ⟨4611686018427387903, by rw [KF_eq]⟩
        show L_X12_river_80 KF 0 Y = _
        rw [hk, L_X12_river_80, c1_0, i00]
      exact ⟨Y, by rw [u1, y1, cl_some, e79], y2, y3, u5.of y4⟩
