/-! rivers: the cells of a bar -/
/-- cell c lies within -/
abbrev rcP (w l u r o c : Int) : Prop := u ≤ c / w ∧ c / w ≤ o ∧ l ≤ c % w ∧ c % w ≤ r
abbrev bef (w y x c : Int) : Prop := c / w < y ∨ (c / w = y ∧ c % w < x)
theorem dm {w x y : Int} (x0 : 0 ≤ x) (x1 : x < w) : (y * w + x) / w = y ∧ (y * w + x) % w = x := by
  have hw : w ≠ 0 := by omega
  constructor
  · rw [Int.add_comm, Int.add_mul_ediv_right _ _ hw, Int.ediv_eq_zero_of_lt x0 x1]
    omega
  · rw [Int.add_comm, Int.add_mul_emod_self_right, Int.emod_eq_of_lt x0 x1]
theorem dm_c {w c : Int} : c = c / w * w + c % w := by
  have := Int.mul_ediv_add_emod c w
  rw [Int.mul_comm] at this
  omega
noncomputable def Amod (A : Int → Int) (bar w l u r o y x : Int) (q : Int) : Int := if 108 ≤ q ∧ q < 168 ∧ rcP w l u r o (q - 108) ∧ bef w y x (q - 108) then bar else A q
theorem Amod_0 {A : Int → Int} {bar w l u r o : Int} : Amod A bar w l u r o u l = A := by
  funext q
  unfold Amod
  rw [if_neg (fun h => by
    obtain ⟨-, -, ⟨h1, h2, h3, h4⟩, h5⟩ := h
    rcases h5 with h5 | h5 <;> omega)]
theorem Amod_row {A : Int → Int} {bar w l u r o y x : Int} (hx : r < x) : Amod A bar w l u r o y x = Amod A bar w l u r o (y + 1) l := by
  funext q
  unfold Amod
  by_cases g : 108 ≤ q ∧ q < 168 ∧ rcP w l u r o (q - 108)
  · obtain ⟨g1, g2, g3⟩ := g
    have e : bef w y x (q - 108) ↔ bef w (y + 1) l (q - 108) := by
      obtain ⟨a, b, c, d⟩ := g3
      unfold bef
      constructor
      · rintro (h | h)
        · left; omega
        · left; omega
      · rintro (h | h)
        · by_cases h2 : (q - 108) / w = y
          · right; omega
          · left; omega
        · omega
    by_cases gb : bef w y x (q - 108)
    · rw [if_pos ⟨g1, g2, g3, gb⟩, if_pos ⟨g1, g2, g3, e.mp gb⟩]
    · rw [if_neg (fun h => gb h.2.2.2), if_neg (fun h => gb (e.mpr h.2.2.2))]
  · rw [if_neg (fun h => g ⟨h.1, h.2.1, h.2.2.1⟩), if_neg (fun h => g ⟨h.1, h.2.1, h.2.2.1⟩)]
theorem Amod_step {A : Int → Int} {bar w l u r o y x : Int} (hy : u ≤ y ∧ y ≤ o) (hx : l ≤ x ∧ x ≤ r) (x0 : 0 ≤ x) (x1 : x < w) (c0 : 0 ≤ y * w + x) (c1 : y * w + x < 60) : Amod A bar w l u r o y (x + 1) = up (Amod A bar w l u r o y x) (108 + (y * w + x)) bar := by
  obtain ⟨d1, d2⟩ := dm (w := w) (y := y) x0 x1
  funext q
  rw [up_at]
  by_cases g : q = 108 + (y * w + x)
  · rw [if_pos g]
    unfold Amod
    have e : q - 108 = y * w + x := by omega
    rw [e, if_pos ⟨by omega, by omega, ⟨by omega, by omega, by omega, by omega⟩, Or.inr ⟨d1, by omega⟩⟩]
  · rw [if_neg g]
    unfold Amod
    by_cases gq : 108 ≤ q ∧ q < 168 ∧ rcP w l u r o (q - 108)
    · obtain ⟨g1, g2, g3⟩ := gq
      have hne : ¬ ((q - 108) / w = y ∧ (q - 108) % w = x) := fun h => g (by
        have := dm_c (w := w) (c := q - 108)
        rw [h.1, h.2] at this
        omega)
      have e : bef w y (x + 1) (q - 108) ↔ bef w y x (q - 108) := by
        unfold bef
        constructor
        · rintro (h | h)
          · exact Or.inl h
          · by_cases h2 : (q - 108) % w = x
            · exact absurd ⟨h.1, h2⟩ hne
            · exact Or.inr ⟨h.1, by omega⟩
        · rintro (h | h)
          · exact Or.inl h
          · exact Or.inr ⟨h.1, by omega⟩
      by_cases gb : bef w y x (q - 108)
      · rw [if_pos ⟨g1, g2, g3, e.mpr gb⟩, if_pos ⟨g1, g2, g3, gb⟩]
      · rw [if_neg (fun h => gb (e.mp h.2.2.2)), if_neg (fun h => gb h.2.2.2)]
    · rw [if_neg (fun h => gq ⟨h.1, h.2.1, h.2.2.1⟩), if_neg (fun h => gq ⟨h.1, h.2.1, h.2.2.1⟩)]
theorem Amod_at {A : Int → Int} {bar w l u r o y x : Int} (x0 : 0 ≤ x) (x1 : x < w) : Amod A bar w l u r o y x (108 + (y * w + x)) = A (108 + (y * w + x)) := by
  obtain ⟨d1, d2⟩ := dm (w := w) (y := y) x0 x1
  unfold Amod
  have e : 108 + (y * w + x) - 108 = y * w + x := by omega
  rw [e, if_neg (fun h => by
    rcases h.2.2.2 with h | h <;> omega)]
/-- a cell gets its owner -/
theorem LE.own {A : Int → Int} {b bar c l : Int} (h : LE A b l) (hc : A (108 + c) = -1) (c0 : 0 ≤ c) (hb : 0 ≤ bar) (b0 : 0 ≤ b) (c1 : c < A 0 * A 1) : LE (up A (108 + c) bar) b (if b = bar then (if l = -1 ∨ c < l then c else l) else l) := by
  have e0 : up A (108 + c) bar 0 = A 0 := up_ne (by omega)
  have e1 : up A (108 + c) bar 1 = A 1 := up_ne (by omega)
  have eq' : ∀ q : Int, q ≠ c → up A (108 + c) bar (108 + q) = A (108 + q) := fun q hq => up_ne (by omega)
  have ec : up A (108 + c) bar (108 + c) = bar := up_same
  unfold LE at *
  rw [e0, e1]
  by_cases g : b = bar
  · rw [if_pos g]
    rcases h with ⟨l1, l2⟩ | ⟨l1, l2, l3, l4⟩
    · rw [if_pos (Or.inl l1)]
      exact Or.inr ⟨c0, c1, by rw [ec, g], fun q q0 q1 => by rw [eq' q (by omega)]; exact l2 q q0 (by omega)⟩
    · by_cases gl : c < l
      · rw [if_pos (Or.inr gl)]
        exact Or.inr ⟨c0, c1, by rw [ec, g], fun q q0 q1 => by rw [eq' q (by omega)]; exact l4 q q0 (by omega)⟩
      · rw [if_neg (by omega)]
        have hne : l ≠ c := fun e => by
          rw [e, hc] at l3
          omega
        exact Or.inr ⟨l1, l2, by rw [eq' l hne]; exact l3, fun q q0 q1 => by rw [eq' q (by omega)]; exact l4 q q0 q1⟩
  · rw [if_neg g]
    rcases h with ⟨l1, l2⟩ | ⟨l1, l2, l3, l4⟩
    · refine Or.inl ⟨l1, fun q q0 q1 => ?_⟩
      by_cases gq : q = c
      · rw [gq, ec]; omega
      · rw [eq' q gq]; exact l2 q q0 q1
    · have hne : l ≠ c := fun e => by
        rw [e, hc] at l3
        omega
      refine Or.inr ⟨l1, l2, by rw [eq' l hne]; exact l3, fun q q0 q1 => ?_⟩
      by_cases gq : q = c
      · rw [gq, ec]; omega
      · rw [eq' q gq]; exact l4 q q0 q1
theorem RV.own {X : Mem} {r : Int} {A : Int → Int} {bar c : Int} (h : RV X r A) (hA : A 2 ≤ 5) (hc : A (108 + c) = -1) (c0 : 0 ≤ c) (c60 : c < 60) (c1 : c < A 0 * A 1) (hb : 0 ≤ bar) (hb2 : bar < A 2) : RV (ms (ms X (r + 2) c bar) (r + 9) bar (if X (r + 9) bar = -1 ∨ c < X (r + 9) bar then c else X (r + 9) bar)) r (up A (108 + c) bar) := by
  have e : ∀ k : Int, k < 108 → up A (108 + c) bar k = A k := fun k hk => up_ne (by omega)
  generalize hL : (if X (r + 9) bar = -1 ∨ c < X (r + 9) bar then c else X (r + 9) bar) = L
  have ne : ∀ i : Int, i ≠ r + 2 → i ≠ r + 9 → ms (ms X (r + 2) c bar) (r + 9) bar L i = X i := fun i h1 h2 => by rw [ms_ne h2, ms_ne h1]
  have est : ∀ d : Int, 0 ≤ d → d < 12 → stg (up A (108 + c) bar) d = stg A d := fun d d0 d1 => by
    unfold stg
    rw [e 13 (by omega), e (16 + d) (by omega)]
  obtain ⟨h1, h2, h3, h4, h5, h6, h7⟩ := h
  refine ⟨?_, fun q q0 q1 => ?_, fun q q0 q1 => ?_, fun d d0 d1 => ?_, fun b b0 b1 => ?_, fun b b0 b1 => ?_, fun b b0 b1 => ?_⟩
  · rw [ne r (by omega) (by omega), e 0 (by omega), e 1 (by omega), e 2 (by omega), e 5 (by omega), e 6 (by omega), e 7 (by omega), e 8 (by omega), e 9 (by omega), e 10 (by omega), e 11 (by omega), e 12 (by omega)]
    exact h1
  · rw [ne _ (by omega) (by omega), e _ (by omega)]
    exact h2 q q0 q1
  · rw [ms_ne (by omega), ms_at, up_at]
    by_cases g : q = c
    · rw [if_pos ⟨rfl, g⟩, if_pos (by omega)]
    · rw [if_neg (fun h => g h.2), if_neg (by omega)]
      exact h3 q q0 q1
  · rw [ne _ (by omega) (by omega), est d d0 d1]
    exact h4 d d0 d1
  · rw [e 2 (by omega)] at b1
    rw [ne _ (by omega) (by omega), ne _ (by omega) (by omega), ne _ (by omega) (by omega), ne _ (by omega) (by omega)]
    rw [e _ (by omega), e _ (by omega), e _ (by omega), e _ (by omega)]
    exact h5 b b0 b1
  · rw [e 2 (by omega)] at b1
    have h := (h6 b b0 b1).own hc c0 hb b0 c1
    rw [ms_at, ms_ne (show r + 9 ≠ r + 2 by omega)]
    by_cases g : b = bar
    · rw [if_pos ⟨rfl, g⟩, ← hL]
      rw [if_pos g, g] at h
      rw [g]
      exact h
    · rw [if_neg (fun h => g h.2)]
      rw [if_neg g] at h
      exact h
  · rw [ne _ (by omega) (by omega), ne _ (by omega) (by omega), ne _ (by omega) (by omega), ne _ (by omega) (by omega)]
    exact h7 b b0 b1
theorem PCR.own {r : Int} {S : Riv} {X : Mem} {bar c : Int} (hr : r ∈ RIV) (h : PCR r S X) (hA : S.A 2 ≤ 5) (hc : S.A (108 + c) = -1) (c0 : 0 ≤ c) (c60 : c < 60) (c1 : c < S.A 0 * S.A 1) (hb : 0 ≤ bar) (hb2 : bar < S.A 2) : PCR r (S.wA (up S.A (108 + c) bar)) (ms (ms X (r + 2) c bar) (r + 9) bar (if X (r + 9) bar = -1 ∨ c < X (r + 9) bar then c else X (r + 9) bar)) := by
  have := RIV_c hr
  obtain ⟨h1, h2, h3⟩ := h
  refine ⟨by rw [ms_ne (by omega), ms_ne (by omega)]; exact h1, h2.own hA hc c0 c60 c1 hb hb2, fun b b0 b1 => ?_⟩
  have b1 : b < up S.A (108 + c) bar 2 := b1
  rw [up_ne (by omega)] at b1
  rw [ms_ne (by omega), ms_ne (by omega)]
  exact h3 b b0 b1
theorem PMR.own {S : Riv} {Z : Mem} {bar c : Int} (h : PMR S Z) (c0 : 0 ≤ c) (c60 : c < 60) : PMR (S.wA (up S.A (108 + c) bar)) (ms Z 121 (1868 + c) bar) := by
  obtain ⟨h1, h2, h3⟩ := h
  refine ⟨by rw [ms_ne (by decide)]; exact h1, fun q q0 q1 => ?_, fun b b0 b1 => ?_⟩
  · show _ = up S.A (108 + c) bar q
    rw [ms_at, up_at]
    by_cases g : q = 108 + c
    · rw [if_pos ⟨rfl, by omega⟩, if_pos g]
    · rw [if_neg (by omega), if_neg g]
      exact h2 q q0 q1
  · have b1 : b < up S.A (108 + c) bar 2 := b1
    rw [up_ne (by omega)] at b1
    rw [ms_ne (by decide)]
    exact h3 b b0 b1
theorem GdR.mod {S : Riv} {bar w l u r o y x : Int} (h : GdR S) (hb : 0 ≤ bar) (hb2 : bar < S.A 2) : GdR (S.wA (Amod S.A bar w l u r o y x)) := by
  obtain ⟨h1, h2, h3, h4, h5, ⟨h6, h7, h8⟩, h9⟩ := h
  have e : ∀ k : Int, k < 108 → Amod S.A bar w l u r o y x k = S.A k := fun k hk => by
    unfold Amod
    rw [if_neg (by omega)]
  refine ⟨?_, ?_, ?_, h4, ?_, ⟨?_, ?_, ?_⟩, fun b b0 b1 => ?_⟩
  · show BD (Amod S.A bar w l u r o y x)
    obtain ⟨a0, a2, a3, a4, a5, a6, a7, a8, a9, a10, a11, a12, a13, a14, as, ab, ad, ao⟩ := h1
    unfold BD
    rw [e 0 (by omega), e 1 (by omega), e 2 (by omega), e 3 (by omega), e 4 (by omega), e 5 (by omega), e 6 (by omega), e 7 (by omega), e 8 (by omega), e 9 (by omega), e 10 (by omega), e 11 (by omega), e 12 (by omega), e 13 (by omega), e 14 (by omega)]
    refine ⟨a0, a2, a3, a4, a5, a6, a7, a8, a9, a10, a11, a12, a13, a14, fun d d0 d1 => by rw [e _ (by omega)]; exact as d d0 d1, fun j j0 j1 => by rw [e _ (by omega)]; exact ab j j0 j1, fun q q0 q1 => by rw [e _ (by omega)]; exact ad q q0 q1, fun q q0 q1 => ?_⟩
    unfold Amod
    split
    · omega
    · exact ao q q0 q1
  · show 2 ≤ Amod S.A bar w l u r o y x 0 ∧ 2 ≤ Amod S.A bar w l u r o y x 1
    rw [e 0 (by omega), e 1 (by omega)]; exact h2
  · show 0 ≤ S.rows ∧ S.rows ≤ Amod S.A bar w l u r o y x 1
    rw [e 1 (by omega)]; exact h3
  · show S.st = 0 → Amod S.A bar w l u r o y x 13 = 0
    rw [e 13 (by omega)]; exact h5
  · show Amod S.A bar w l u r o y x 3 = 0
    rw [e 3 (by omega)]; exact h6
  · show Amod S.A bar w l u r o y x 4 = 0
    rw [e 4 (by omega)]; exact h7
  · show Amod S.A bar w l u r o y x 14 = 0
    rw [e 14 (by omega)]; exact h8
  · have b1 : b < Amod S.A bar w l u r o y x 2 := b1
    rw [e 2 (by omega)] at b1
    exact h9 b b0 b1
/-- all cells within are free -/
def AF (A : Int → Int) (w l u r o : Int) : Prop := ∀ c : Int, rcP w l u r o c → A (108 + c) = -1
/-- what at tells: a bar, left, upper, right, lower -/
abbrev ATP (A : Int → Int) (bar l u r o : Int) : Prop := (0 ≤ bar ∧ bar < A 2 ∧ A 2 ≤ 5) ∧ (0 ≤ l ∧ l ≤ r ∧ r < A 0) ∧ (0 ≤ u ∧ u ≤ o ∧ o < A 1) ∧ (2 ≤ A 0 ∧ A 0 ≤ 10) ∧ (2 ≤ A 1 ∧ A 1 ≤ 6)
theorem ATP.c {A : Int → Int} {bar l u r o y x : Int} (h : ATP A bar l u r o) (y0 : 0 ≤ y) (y1 : y ≤ o) (x0 : 0 ≤ x) (x1 : x < A 0) : 0 ≤ y * A 0 + x ∧ y * A 0 + x < 60 ∧ y * A 0 + x < A 0 * A 1 := by
  obtain ⟨-, -, h3, h4, h5⟩ := h
  have h0 := Int.mul_nonneg y0 (show (0 : Int) ≤ A 0 by omega)
  have h1 := Int.mul_le_mul_of_nonneg_right (show y ≤ A 1 - 1 by omega) (show (0 : Int) ≤ A 0 by omega)
  have h2 : (A 1 - 1) * A 0 = A 0 * A 1 - A 0 := by rw [Int.sub_mul, Int.one_mul, Int.mul_comm]
  have h6 := Int.mul_le_mul h4.2 h5.2 (by omega) (by decide : (0 : Int) ≤ 10)
  omega
/-- the class gives cells: row by row -/
theorem gives_13 {r' : Int} {S : Riv} {bar l u r o : Int} (hr : r' ∈ RIV) (hat : ATP S.A bar l u r o) (hob : ∀ c : Int, 0 ≤ c → c < 60 → -1 ≤ S.A (108 + c) ∧ S.A (108 + c) < S.A 2) (go : Int → Int → Int → Int → Int → Mem → Option (Int × Mem)) {y : Int} (y0 : u ≤ y) (y1 : y ≤ o) : ∀ (K : Nat) (x : Int) (X : Mem), l ≤ x → x ≤ r + 1 → (r + 1 - x).toNat < K → PCR r' (S.wA (Amod S.A bar (S.A 0) l u r o y x)) X → (∀ c : Int, rcP (S.A 0) l u r o c → bef (S.A 0) y x c → S.A (108 + c) = -1) →
    ∃ Y : Mem, ((L_X3_giveCells_13 go K bar l r o y x X = go bar l r o (y + 1) Y ∧ PCR r' (S.wA (Amod S.A bar (S.A 0) l u r o (y + 1) l)) Y ∧ ∀ c : Int, rcP (S.A 0) l u r o c → bef (S.A 0) (y + 1) l c → S.A (108 + c) = -1) ∨ (L_X3_giveCells_13 go K bar l r o y x X = some (0, Y) ∧ (∃ S' : Riv, PCR r' S' Y) ∧ ¬ AF S.A (S.A 0) l u r o)) ∧ (∀ i : Int, i ≠ r' + 2 → i ≠ r' + 9 → Y i = X i) := by
  have hrr := RIV_c hr
  intro K
  induction K with
  | zero => intro x X _ _ h; omega
  | succ K ih =>
    intro x X x0 x1 hK hX hf
    obtain ⟨p1, p2, p3, p4, p5⟩ := id hat
    rw [L_X3_giveCells_13, c2_ok (by omega) (by omega) (by omega) (by omega)]
    by_cases g : r < x
    · refine ⟨X, Or.inl ⟨by rw [if_pos g, B_X3_giveCells_106], ?_, fun c h1 h2 => hf c h1 ?_⟩, fun _ _ _ => rfl⟩
      · rw [← Amod_row g]
        exact hX
      · obtain ⟨a, b, c', d⟩ := h1
        rcases h2 with h | h
        · by_cases e : c / S.A 0 = y
          · exact Or.inr ⟨e, by omega⟩
          · exact Or.inl (by omega)
        · omega
    · have hcc := hat.c (y := y) (x := x) (by omega) y1 (by omega) (by omega)
      have e0 : X r' 0 = S.A 0 := hX.2.1.1.1.trans (by
        show Amod S.A bar (S.A 0) l u r o y x 0 = S.A 0
        unfold Amod
        rw [if_neg (by omega)])
      have eo : X (r' + 2) (y * S.A 0 + x) = S.A (108 + (y * S.A 0 + x)) := (hX.2.1.2.2.1 _ hcc.1 hcc.2.1).trans (Amod_at (by omega) (by omega))
      have how := hX.2.1.2.2.1 _ hcc.1 hcc.2.1
      rw [if_neg g, hX.1.1, cm_ok hr, bd_eq, e0, cm_ok hr, ax_ok hcc.1 hcc.2.1, eo]
      by_cases gf : S.A (108 + (y * S.A 0 + x)) = -1
      · have e2 : Amod S.A bar (S.A 0) l u r o y x 2 = S.A 2 := by
          unfold Amod
          rw [if_neg (by omega)]
        have em : ∀ k : Int, k < 108 → Amod S.A bar (S.A 0) l u r o y x k = S.A k := fun k hk => by
          unfold Amod
          rw [if_neg (by omega)]
        have hlr := LE_r (A := Amod S.A bar (S.A 0) l u r o y x) (b := bar) (l := X (r' + 9) bar)
        have hle : LE (Amod S.A bar (S.A 0) l u r o y x) bar (X (r' + 9) bar) := hX.2.1.2.2.2.2.2.1 bar p1.1 (by show bar < Amod S.A bar (S.A 0) l u r o y x 2; rw [e2]; omega)
        have hlr : -1 ≤ X (r' + 9) bar ∧ X (r' + 9) bar < 60 := by
          rcases hle with ⟨h, -⟩ | ⟨h1, h2, -⟩
          · omega
          · rw [em 0 (by decide), em 1 (by decide)] at h2
            have h6 := Int.mul_le_mul p4.2 p5.2 (by omega) (by decide : (0 : Int) ≤ 10)
            omega
        have hst := Amod_step (A := S.A) (bar := bar) (w := S.A 0) (l := l) (u := u) (r := r) (o := o) (y := y) (x := x) ⟨y0, y1⟩ ⟨x0, by omega⟩ (by omega) (by omega) hcc.1 hcc.2.1
        have hown := hX.own (bar := bar) (c := y * S.A 0 + x) hr (by show Amod S.A bar (S.A 0) l u r o y x 2 ≤ 5; rw [e2]; exact p1.2.2) (by show Amod S.A bar (S.A 0) l u r o y x _ = -1; rw [Amod_at (by omega) (by omega)]; exact gf) hcc.1 hcc.2.1 (by show _ < Amod S.A bar (S.A 0) l u r o y x 0 * Amod S.A bar (S.A 0) l u r o y x 1; rw [em 0 (by decide), em 1 (by decide)]; exact hcc.2.2) p1.1 (by show bar < Amod S.A bar (S.A 0) l u r o y x 2; rw [e2]; omega)
        have hown : PCR r' (S.wA (Amod S.A bar (S.A 0) l u r o y (x + 1))) (ms (ms X (r' + 2) (y * S.A 0 + x) bar) (r' + 9) bar (if X (r' + 9) bar = -1 ∨ y * S.A 0 + x < X (r' + 9) bar then y * S.A 0 + x else X (r' + 9) bar)) := by
          rw [hst]
          exact hown
        have hf' : ∀ c : Int, rcP (S.A 0) l u r o c → bef (S.A 0) y (x + 1) c → S.A (108 + c) = -1 := fun c h1 h2 => by
          by_cases e : c / S.A 0 = y ∧ c % S.A 0 = x
          · have := dm_c (w := S.A 0) (c := c)
            rw [e.1, e.2] at this
            rw [this]
            exact gf
          · refine hf c h1 ?_
            rcases h2 with h | h
            · exact Or.inl h
            · exact Or.inr ⟨h.1, by omega⟩
        have e37 : ms X (r' + 2) (y * S.A 0 + x) bar 37 1 = r' := by rw [ms_ne (by omega)]; exact hX.1.1
        have e9 : ms X (r' + 2) (y * S.A 0 + x) bar (r' + 9) bar = X (r' + 9) bar := by rw [ms_ne (by omega)]
        rw [c2_ok (by omega) (by omega) (by decide) (by decide), if_pos gf, cm_ok hr, ax_ok hcc.1 hcc.2.1, bd_eq, e37, cm_ok hr, ax_ok (by omega) (by omega), e9, c2_ok (by omega) (by omega) (by decide) (by decide)]
        have fin : ∀ Y' : Mem, Y' = ms (ms X (r' + 2) (y * S.A 0 + x) bar) (r' + 9) bar (if X (r' + 9) bar = -1 ∨ y * S.A 0 + x < X (r' + 9) bar then y * S.A 0 + x else X (r' + 9) bar) → ∃ Y : Mem, ((L_X3_giveCells_13 go K bar l r o y (x + 1) Y' = go bar l r o (y + 1) Y ∧ PCR r' (S.wA (Amod S.A bar (S.A 0) l u r o (y + 1) l)) Y ∧ ∀ c : Int, rcP (S.A 0) l u r o c → bef (S.A 0) (y + 1) l c → S.A (108 + c) = -1) ∨ (L_X3_giveCells_13 go K bar l r o y (x + 1) Y' = some (0, Y) ∧ (∃ S' : Riv, PCR r' S' Y) ∧ ¬ AF S.A (S.A 0) l u r o)) ∧ (∀ i : Int, i ≠ r' + 2 → i ≠ r' + 9 → Y i = X i) := fun Y' hY' => by
          rw [← hY'] at hown
          obtain ⟨Y, h1, h2⟩ := ih (x + 1) Y' (by omega) (by omega) (by omega) hown hf'
          exact ⟨Y, h1, fun i i1 i2 => by rw [h2 i i1 i2, hY', ms_ne i2, ms_ne i1]⟩
        by_cases gl : X (r' + 9) bar = -1
        · rw [if_pos (Or.inl gl)] at fin
          rw [if_pos gl, B_X3_giveCells_89, e37, cm_ok hr, ax_ok (by omega) (by omega), bd_eq, B_X3_giveCells_100]
          exact fin _ rfl
        · rw [if_neg gl, cm_ok hr, ax_ok (by omega) (by omega), c2_ok (by omega) (by omega) (by omega) (by omega)]
          by_cases gl2 : X (r' + 9) bar ≤ y * S.A 0 + x
          · rw [if_neg (show ¬ (X (r' + 9) bar = -1 ∨ y * S.A 0 + x < X (r' + 9) bar) by omega)] at fin
            rw [if_pos gl2, B_X3_giveCells_100]
            refine fin _ ?_
            have es := ms_self (X := ms X (r' + 2) (y * S.A 0 + x) bar) (i := r' + 9) (k := bar)
            rw [e9] at es
            exact es.symm
          · rw [if_pos (show X (r' + 9) bar = -1 ∨ y * S.A 0 + x < X (r' + 9) bar by omega)] at fin
            rw [if_neg gl2, B_X3_giveCells_89, e37, cm_ok hr, ax_ok (by omega) (by omega), bd_eq, B_X3_giveCells_100]
            exact fin _ rfl
      · have ho := hob _ hcc.1 hcc.2.1
        obtain ⟨d1, d2⟩ := dm (w := S.A 0) (x := x) (y := y) (by omega) (by omega)
        refine ⟨X, Or.inr ⟨by rw [c2_ok (by omega) (by omega) (by decide) (by decide), if_neg gf], ⟨_, hX⟩, fun h => gf (h _ ⟨by omega, by omega, by omega, by omega⟩)⟩, fun _ _ _ => rfl⟩
theorem gives_3 {r' : Int} {S : Riv} {bar l u r o : Int} (hr : r' ∈ RIV) (hat : ATP S.A bar l u r o) (hob : ∀ c : Int, 0 ≤ c → c < 60 → -1 ≤ S.A (108 + c) ∧ S.A (108 + c) < S.A 2) : ∀ (K : Nat) (y : Int) (X : Mem), u ≤ y → y ≤ o + 1 → (o + 1 - y).toNat < K → PCR r' (S.wA (Amod S.A bar (S.A 0) l u r o y l)) X → (∀ c : Int, rcP (S.A 0) l u r o c → bef (S.A 0) y l c → S.A (108 + c) = -1) →
    ∃ Y : Mem, ((L_X3_giveCells_3 K bar l r o y X = some (1, Y) ∧ PCR r' (S.wA (Amod S.A bar (S.A 0) l u r o (o + 1) l)) Y ∧ AF S.A (S.A 0) l u r o) ∨ (L_X3_giveCells_3 K bar l r o y X = some (0, Y) ∧ (∃ S' : Riv, PCR r' S' Y) ∧ ¬ AF S.A (S.A 0) l u r o)) ∧ (∀ i : Int, i ≠ r' + 2 → i ≠ r' + 9 → Y i = X i) := by
  intro K
  induction K with
  | zero => intro y X _ _ h; omega
  | succ K ih =>
    intro y X y0 y1 hK hX hf
    obtain ⟨p1, p2, p3, p4, p5⟩ := id hat
    rw [L_X3_giveCells_3, c2_ok (by omega) (by omega) (by omega) (by omega)]
    by_cases g : o < y
    · have e : y = o + 1 := by omega
      refine ⟨X, Or.inl ⟨by rw [if_pos g], by rw [← e]; exact hX, fun c hc => hf c hc (Or.inl (by have := hc.2.1; omega))⟩, fun _ _ _ => rfl⟩
    · obtain ⟨Y, h1, h2⟩ := gives_13 hr hat hob (fun x1 x2 x4 x5 x6 X => L_X3_giveCells_3 K x1 x2 x4 x5 x6 X) y0 (by omega) KF l X (Int.le_refl _) (by omega) (by rw [KF_eq]; omega) hX hf
      rcases h1 with ⟨a1, a2, a3⟩ | ⟨a1, a2⟩
      · obtain ⟨Y', b1, b2⟩ := ih (y + 1) Y (by omega) (by omega) (by omega) a2 a3
        refine ⟨Y', ?_, fun i i1 i2 => by rw [b2 i i1 i2, h2 i i1 i2]⟩
        rw [if_neg g, a1]
        exact b1
      · exact ⟨Y, Or.inr ⟨by rw [if_neg g, a1], a2⟩, h2⟩
/-- the reference's first pass: are they free? -/
theorem pass0_194 {Z : Mem} {S : Riv} {bar l u r o : Int} (hZ : PMR S Z) (h128 : Z 128 0 = l ∧ Z 128 1 = u ∧ Z 128 2 = r ∧ Z 128 3 = o) (hat : ATP S.A bar l u r o) (hob : ∀ c : Int, 0 ≤ c → c < 60 → -1 ≤ S.A (108 + c) ∧ S.A (108 + c) < S.A 2) (g1 : Int → Int → Mem → Option (Int × Mem)) (g2 : Int → Int → Int → Mem → Option (Int × Mem)) {y : Int} (y0 : u ≤ y) (y1 : y ≤ o) : ∀ (K : Nat) (x : Int), l ≤ x → x ≤ r + 1 → (r + 1 - x).toNat < K → (∀ c : Int, rcP (S.A 0) l u r o c → bef (S.A 0) y x c → S.A (108 + c) = -1) →
    (L_X12_someCells_194 g1 g2 K bar 0 y x Z = g2 bar 0 (y + 1) Z ∧ ∀ c : Int, rcP (S.A 0) l u r o c → bef (S.A 0) (y + 1) l c → S.A (108 + c) = -1) ∨ (L_X12_someCells_194 g1 g2 K bar 0 y x Z = B_X12_someCells_239 Z ∧ ¬ AF S.A (S.A 0) l u r o) := by
  intro K
  induction K with
  | zero => intro x _ _ h; omega
  | succ K ih =>
    intro x x0 x1 hK hf
    obtain ⟨p1, p2, p3, p4, p5⟩ := id hat
    have e0 : Z 121 1760 = S.A 0 := hZ.2.1 0 (by decide) (by decide)
    rw [L_X12_someCells_194, h128.2.2.1, ax_ok (by decide) (by decide), c2_ok (by omega) (by omega) (by omega) (by omega)]
    by_cases g : r < x
    · refine Or.inl ⟨by rw [if_pos g, B_X12_someCells_271], fun c h1 h2 => hf c h1 ?_⟩
      obtain ⟨a, b, c', d⟩ := h1
      rcases h2 with h | h
      · by_cases e : c / S.A 0 = y
        · exact Or.inr ⟨e, by omega⟩
        · exact Or.inl (by omega)
      · omega
    · have hcc := hat.c (y := y) (x := x) (by omega) y1 (by omega) (by omega)
      have hcm : S.A 0 * y = y * S.A 0 := Int.mul_comm _ _
      have ec : (1868 : Int) + S.A 0 * y + x = 1760 + (108 + (y * S.A 0 + x)) := by omega
      have ev := hZ.2.1 (108 + (y * S.A 0 + x)) (by omega) (by omega)
      have ho := hob _ hcc.1 hcc.2.1
      rw [if_neg g, ax_ok (by decide) (by decide), bd_eq, e0, c1_0, n00, ec, ax_ok (by omega) (by omega), ev, c2_ok (by omega) (by omega) (by decide) (by decide)]
      by_cases gf : S.A (108 + (y * S.A 0 + x)) = -1
      · have es : ms (ms Z 121 (1760 + (108 + (y * S.A 0 + x))) bar) 121 (1760 + (108 + (y * S.A 0 + x))) (-1) = Z := by
          rw [ms_ms, ← gf, ← ev, ms_self]
        rw [if_pos gf, B_X12_someCells_245, ax_ok (by omega) (by omega), bd_eq, c1_0, n00, ax_ok (by omega) (by omega), bd_eq, es, B_X12_someCells_265]
        refine ih (x + 1) (by omega) (by omega) (by omega) fun c h1 h2 => ?_
        by_cases e : c / S.A 0 = y ∧ c % S.A 0 = x
        · have := dm_c (w := S.A 0) (c := c)
          rw [e.1, e.2] at this
          rw [this]
          exact gf
        · refine hf c h1 ?_
          rcases h2 with h | h
          · exact Or.inl h
          · exact Or.inr ⟨h.1, by omega⟩
      · obtain ⟨d1, d2⟩ := dm (w := S.A 0) (x := x) (y := y) (by omega) (by omega)
        exact Or.inr ⟨by rw [if_neg gf], fun h => gf (h _ ⟨by omega, by omega, by omega, by omega⟩)⟩
theorem pass0_176 {Z : Mem} {S : Riv} {bar l u r o : Int} (hZ : PMR S Z) (h128 : Z 128 0 = l ∧ Z 128 1 = u ∧ Z 128 2 = r ∧ Z 128 3 = o) (hat : ATP S.A bar l u r o) (hob : ∀ c : Int, 0 ≤ c → c < 60 → -1 ≤ S.A (108 + c) ∧ S.A (108 + c) < S.A 2) (g1 : Int → Int → Mem → Option (Int × Mem)) : ∀ (K : Nat) (y : Int), u ≤ y → y ≤ o + 1 → (o + 1 - y).toNat < K → (∀ c : Int, rcP (S.A 0) l u r o c → bef (S.A 0) y l c → S.A (108 + c) = -1) →
    (L_X12_someCells_176 g1 K bar 0 y Z = g1 bar 1 Z ∧ AF S.A (S.A 0) l u r o) ∨ (L_X12_someCells_176 g1 K bar 0 y Z = B_X12_someCells_239 Z ∧ ¬ AF S.A (S.A 0) l u r o) := by
  intro K
  induction K with
  | zero => intro y _ _ h; omega
  | succ K ih =>
    intro y y0 y1 hK hf
    obtain ⟨p1, p2, p3, p4, p5⟩ := id hat
    rw [L_X12_someCells_176, h128.2.2.2, ax_ok (by decide) (by decide), c2_ok (by omega) (by omega) (by omega) (by omega)]
    by_cases g : o < y
    · exact Or.inl ⟨by rw [if_pos g, B_X12_someCells_277]; rfl, fun c hc => hf c hc (Or.inl (by have := hc.2.1; omega))⟩
    · rw [if_neg g, ax_ok (by decide) (by decide), bd_eq, h128.1]
      rcases pass0_194 hZ h128 hat hob g1 (fun x1 x2 x3 X => L_X12_someCells_176 g1 K x1 x2 x3 X) y0 (by omega) KF l (Int.le_refl _) (by omega) (by rw [KF_eq]; omega) hf with ⟨a1, a2⟩ | ⟨a1, a2⟩
      · rw [a1]
        exact ih (y + 1) (by omega) (by omega) (by omega) a2
      · exact Or.inr ⟨a1, a2⟩
/-- the second pass: they get their owner -/
theorem pass1_194 {T : Int → Int} {S : Riv} {bar l u r o : Int} (hat : ATP S.A bar l u r o) (g1 : Int → Int → Mem → Option (Int × Mem)) (g2 : Int → Int → Int → Mem → Option (Int × Mem)) {y : Int} (y0 : u ≤ y) (y1 : y ≤ o) : ∀ (K : Nat) (x : Int) (Z : Mem), l ≤ x → x ≤ r + 1 → (r + 1 - x).toNat < K → (Z 128 0 = l ∧ Z 128 1 = u ∧ Z 128 2 = r ∧ Z 128 3 = o) → PMR (S.wA (Amod S.A bar (S.A 0) l u r o y x)) Z →
    ∃ Y : Mem, L_X12_someCells_194 g1 g2 K bar 1 y x Z = g2 bar 1 (y + 1) Y ∧ PMR (S.wA (Amod S.A bar (S.A 0) l u r o (y + 1) l)) Y ∧ (∀ i : Int, i ≠ 121 → Y i = Z i) ∧ ∀ q : Int, q < 1760 → Y 121 q = Z 121 q := by
  intro K
  induction K with
  | zero => intro x Z _ _ h; omega
  | succ K ih =>
    intro x Z x0 x1 hK h128 hZ
    obtain ⟨p1, p2, p3, p4, p5⟩ := id hat
    have e0 : Z 121 1760 = S.A 0 := (hZ.2.1 0 (by decide) (by decide)).trans (by
      show Amod S.A bar (S.A 0) l u r o y x 0 = S.A 0
      unfold Amod
      rw [if_neg (by omega)])
    rw [L_X12_someCells_194, h128.2.2.1, ax_ok (by decide) (by decide), c2_ok (by omega) (by omega) (by omega) (by omega)]
    by_cases g : r < x
    · refine ⟨Z, by rw [if_pos g, B_X12_someCells_271], ?_, fun _ _ => rfl, fun _ _ => rfl⟩
      rw [← Amod_row g]
      exact hZ
    · have hcc := hat.c (y := y) (x := x) (by omega) y1 (by omega) (by omega)
      have hcm : S.A 0 * y = y * S.A 0 := Int.mul_comm _ _
      have ec : (1868 : Int) + S.A 0 * y + x = 1868 + (y * S.A 0 + x) := by omega
      have hst := Amod_step (A := S.A) (bar := bar) (w := S.A 0) (l := l) (u := u) (r := r) (o := o) (y := y) (x := x) ⟨y0, y1⟩ ⟨x0, by omega⟩ (by omega) (by omega) hcc.1 hcc.2.1
      have hown : PMR (S.wA (Amod S.A bar (S.A 0) l u r o y (x + 1))) (ms Z 121 (1868 + (y * S.A 0 + x)) bar) := by
        rw [hst]
        exact hZ.own (bar := bar) hcc.1 hcc.2.1
      rw [if_neg g, ax_ok (by decide) (by decide), bd_eq, e0, c1_1, n10, ec, B_X12_someCells_245, ax_ok (by omega) (by omega), bd_eq, c1_1, n10, B_X12_someCells_265]
      obtain ⟨Y, h1, h2, h3, h4⟩ := ih (x + 1) _ (by omega) (by omega) (by omega) (by rw [ms_ne (by decide)]; exact h128) hown
      exact ⟨Y, h1, h2, fun i hi => by rw [h3 i hi, ms_ne hi], fun q hq => by rw [h4 q hq, ms_at, if_neg (by omega)]⟩
theorem pass1_176 {S : Riv} {bar l u r o : Int} (hat : ATP S.A bar l u r o) (g1 : Int → Int → Mem → Option (Int × Mem)) : ∀ (K : Nat) (y : Int) (Z : Mem), u ≤ y → y ≤ o + 1 → (o + 1 - y).toNat < K → (Z 128 0 = l ∧ Z 128 1 = u ∧ Z 128 2 = r ∧ Z 128 3 = o) → PMR (S.wA (Amod S.A bar (S.A 0) l u r o y l)) Z →
    ∃ Y : Mem, L_X12_someCells_176 g1 K bar 1 y Z = g1 bar 2 Y ∧ PMR (S.wA (Amod S.A bar (S.A 0) l u r o (o + 1) l)) Y ∧ (∀ i : Int, i ≠ 121 → Y i = Z i) ∧ ∀ q : Int, q < 1760 → Y 121 q = Z 121 q := by
  intro K
  induction K with
  | zero => intro y Z _ _ h; omega
  | succ K ih =>
    intro y Z y0 y1 hK h128 hZ
    obtain ⟨p1, p2, p3, p4, p5⟩ := id hat
    rw [L_X12_someCells_176, h128.2.2.2, ax_ok (by decide) (by decide), c2_ok (by omega) (by omega) (by omega) (by omega)]
    by_cases g : o < y
    · have e : y = o + 1 := by omega
      exact ⟨Z, by rw [if_pos g, B_X12_someCells_277]; rfl, by rw [← e]; exact hZ, fun _ _ => rfl, fun _ _ => rfl⟩
    · rw [if_neg g, ax_ok (by decide) (by decide), bd_eq, h128.1]
      obtain ⟨Y, a1, a2, a3, a4⟩ := pass1_194 (T := fun _ => 0) hat g1 (fun x1 x2 x3 X => L_X12_someCells_176 g1 K x1 x2 x3 X) y0 (by omega) KF l Z (Int.le_refl _) (by omega) (by rw [KF_eq]; omega) h128 hZ
      obtain ⟨Y', b1, b2, b3, b4⟩ := ih (y + 1) Y (by omega) (by omega) (by omega) (by rw [a3 128 (by decide)]; exact h128) a2
      exact ⟨Y', by rw [a1]; exact b1, b2, fun i hi => by rw [b3 i hi, a3 i hi], fun q hq => by rw [b4 q hq, a4 q hq]⟩
theorem passes {Z : Mem} {S : Riv} {bar l u r o : Int} (hZ : PMR S Z) (h128 : Z 128 0 = l ∧ Z 128 1 = u ∧ Z 128 2 = r ∧ Z 128 3 = o) (hat : ATP S.A bar l u r o) (hob : ∀ c : Int, 0 ≤ c → c < 60 → -1 ≤ S.A (108 + c) ∧ S.A (108 + c) < S.A 2) : (AF S.A (S.A 0) l u r o ∧ ∃ Y : Mem, B_X12_someCells_162 bar Z = B_X12_someCells_283 Y ∧ PMR (S.wA (Amod S.A bar (S.A 0) l u r o (o + 1) l)) Y ∧ (∀ i : Int, i ≠ 121 → Y i = Z i) ∧ ∀ q : Int, q < 1760 → Y 121 q = Z 121 q) ∨ (¬ AF S.A (S.A 0) l u r o ∧ B_X12_someCells_162 bar Z = B_X12_someCells_239 Z) := by
  obtain ⟨p1, p2, p3, p4, p5⟩ := id hat
  have nob : ∀ c : Int, rcP (S.A 0) l u r o c → bef (S.A 0) u l c → S.A (108 + c) = -1 := fun c h1 h2 => by
    rcases h2 with h | h
    · have := h1.1; omega
    · have := h1.2.2.1; omega
  obtain ⟨k', hk⟩ : ∃ k' : Nat, KF = k' + 1 + 1 + 1 := ⟨4611686018427387901, by rw [KF_eq]⟩
  have e0 : B_X12_someCells_162 bar Z = L_X12_someCells_176 (fun x1 x2 X => L_X12_someCells_164 (k' + 1 + 1) x1 x2 X) KF bar 0 u Z := by
    rw [B_X12_someCells_162]
    conv => lhs; rw [hk]
    rw [L_X12_someCells_164, c2_ok (by decide) (by decide) (by decide) (by decide), if_neg (by decide), ax_ok (by decide) (by decide), bd_eq, h128.2.1]
  rw [e0]
  rcases pass0_176 hZ h128 hat hob (fun x1 x2 X => L_X12_someCells_164 (k' + 1 + 1) x1 x2 X) KF u (Int.le_refl _) (by omega) (by rw [KF_eq]; omega) nob with ⟨a1, a2⟩ | ⟨a1, a2⟩
  · refine Or.inl ⟨a2, ?_⟩
    obtain ⟨Y, b1, b2, b3, b4⟩ := pass1_176 hat (fun x1 x2 X => L_X12_someCells_164 (k' + 1) x1 x2 X) KF u Z (Int.le_refl _) (by omega) (by rw [KF_eq]; omega) h128 (by rw [Amod_0]; exact hZ)
    refine ⟨Y, ?_, b2, b3, b4⟩
    rw [a1]
    show L_X12_someCells_164 (k' + 1 + 1) bar 1 Z = _
    rw [L_X12_someCells_164, c2_ok (by decide) (by decide) (by decide) (by decide), if_neg (by decide), ax_ok (by decide) (by decide), bd_eq, h128.2.1, b1]
    show L_X12_someCells_164 (k' + 1) bar 2 Y = _
    rw [L_X12_someCells_164, c2_ok (by decide) (by decide) (by decide) (by decide), if_pos (by decide)]
  · exact Or.inr ⟨a2, a1⟩
