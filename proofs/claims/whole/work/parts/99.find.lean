/-! which sets have a way -/
def sub (l a : Int) : Prop := ∀ b : Int, 0 ≤ b → b < 5 → ia (ishr l b) 1 = 1 → ia (ishr a b) 1 = 1
theorem opn_sub {A : Int → Int} {nd a a' c : Int} (hB : BD A) (hs : sub a a') (c0 : 0 ≤ c) (c1 : c < A 0 * A 1) (h : opn A nd a c) : opn A nd a' c := by
  have hcl := BD_cells hB
  have ho := hB.2.2.2.2.2.2.2.2.2.2.2.2.2.2.2.2.2 c c0 (by omega)
  have h2 := hB.2.1
  by_cases e : A (108 + c) = -1
  · left
    unfold opn okc tk at *
    rw [if_pos e] at *
    rw [if_pos e] at h
    rcases h with h | ⟨h, -⟩ <;> exact h
  · rcases h with h | ⟨h, h3⟩
    · exact Or.inl h
    · exact Or.inr ⟨h, hs _ (by omega) (by omega) h3⟩
theorem FIX_le2 {A : Int → Int} {nd a a' to : Int} {V W : Int → Int → Int} (hB : BD A) (hs : sub a a') (hF : FIX A nd a' to V) (hG : FIX A nd a to W) : ∀ (n : Nat) (c h : Int), 0 ≤ c → c < A 0 * A 1 → 0 ≤ h → h < 9 → opn A nd a c → chn A nd a to W n c h → W c h ≠ FAR → V c h ≤ W c h
  | 0, c, h, c0, c1, h0, h1, ho, hc, _ => by
    rw [(hF c c0 c1 h h0 h1).2.1 (opn_sub hB hs c0 c1 ho) hc, (hG c c0 c1 h h0 h1).2.1 ho hc]
    exact Int.le_refl _
  | n + 1, c, h, c0, c1, h0, h1, ho, hc, hW => by
    rcases hc with hc | ⟨hne, n', g, ⟨⟨g0, g1⟩, e1, e2, e3, e4, e5⟩, hc⟩
    · rw [(hF c c0 c1 h h0 h1).2.1 (opn_sub hB hs c0 c1 ho) hc, (hG c c0 c1 h h0 h1).2.1 ho hc]
      exact Int.le_refl _
    · have hr := ld_r hB e1
      rw [← e2] at hr
      have ih := FIX_le2 hB hs hF hG n n' g hr.1 hr.2 g0 (by omega) e3 hc e4
      have hb := V_b hB hG hr.1 hr.2 g0 (show g < 9 by omega) e3 e4
      have h4 := ((hF c c0 c1 h h0 h1).2.2.2 (opn_sub hB hs c0 c1 ho) hne).1 g g0 g1 e1 (by rw [← e2]; exact opn_sub hB hs hr.1 hr.2 e3) (by rw [← e2]; unfold FAR; omega)
      rw [← e2] at h4
      omega
def WAYP (A : Int → Int) (nd f to a : Int) : Prop := ∃ V : Int → Int → Int, FIX A nd a to V ∧ opn A nd a f ∧ V f 8 ≠ FAR
theorem WAYP.sub {A : Int → Int} {nd f to a a' : Int} (hB : BD A) (f0 : 0 ≤ f) (f1 : f < A 0 * A 1) (hX : ∃ V : Int → Int → Int, FIX A nd a' to V) (hs : sub a a') (h : WAYP A nd f to a) : WAYP A nd f to a' := by
  obtain ⟨W, h1, h2, h3⟩ := h
  obtain ⟨V, hV⟩ := hX
  have := FIX_le2 hB hs hV h1 59 f 8 f0 f1 (by decide) (by decide) h2 (chn_59 hB h1 f0 f1 (by decide) (by decide) h2 h3) h3
  have hb := (h1 f f0 f1 8 (by decide) (by decide)).1
  exact ⟨V, hV, opn_sub hB hs f0 f1 h2, by omega⟩
theorem drop_bit : ∀ (a : Fin 32) (b : Fin 5), ia (ishr (a.val : Int) (b.val : Int)) 1 = 1 → 0 ≤ ix (a.val : Int) (ishl 1 (b.val : Int)) ∧ ix (a.val : Int) (ishl 1 (b.val : Int)) < a.val ∧ ∀ d : Fin 5, ia (ishr (ix (a.val : Int) (ishl 1 (b.val : Int))) (d.val : Int)) 1 = 1 → ia (ishr (a.val : Int) (d.val : Int)) 1 = 1 := by decide +kernel
theorem fin32 {a : Int} (a0 : 0 ≤ a) (a1 : a < 32) : ∃ x : Fin 32, (x.val : Int) = a := ⟨⟨a.toNat, by omega⟩, Int.toNat_of_nonneg a0⟩
theorem fin5 {a : Int} (a0 : 0 ≤ a) (a1 : a < 5) : ∃ x : Fin 5, (x.val : Int) = a := ⟨⟨a.toNat, by omega⟩, Int.toNat_of_nonneg a0⟩
theorem drop_bit2 {a b : Int} (a0 : 0 ≤ a) (a1 : a < 32) (b0 : 0 ≤ b) (b1 : b < 5) (h : ia (ishr a b) 1 = 1) : 0 ≤ ix a (ishl 1 b) ∧ ix a (ishl 1 b) < a ∧ sub (ix a (ishl 1 b)) a := by
  obtain ⟨a, rfl⟩ := fin32 a0 a1
  obtain ⟨b, rfl⟩ := fin5 b0 b1
  obtain ⟨h1, h2, h3⟩ := drop_bit a b h
  refine ⟨h1, h2, fun d d0 d1 hd => ?_⟩
  obtain ⟨d, rfl⟩ := fin5 d0 d1
  exact h3 d hd
theorem less_2 {Z : Mem} {A : Int → Int} {nd r a : Int} (hB : BD A) (hG : GL A nd r Z) (a0 : 0 ≤ a) (a1 : a < 32) (hZ : ∀ q : Int, 0 ≤ q → q < a → Z 43 q = 0 ∨ Z 43 q = 1) : ∀ (k : Nat) (b : Int), 0 ≤ b → b ≤ A 2 → (A 2 - b).toNat < k →
    ∃ v : Int, L_X1_hasWayByLess_2 k a b Z = some (v, Z) ∧ (v = 0 ∨ (v = 1 ∧ ∃ q : Int, 0 ≤ q ∧ q < a ∧ sub q a ∧ Z 43 q = 1)) := by
  have hB2 := hB.2.1
  obtain ⟨g1, ⟨⟨-, -, r2, -⟩, -⟩, g3, -⟩ := hG
  intro k
  induction k with
  | zero => intro b _ _ hk; omega
  | succ k ih =>
    intro b b0 b1 hk
    rw [L_X1_hasWayByLess_2, g3, cm_ok g1, r2, c2_ok (by omega) (by omega) (by omega) (by omega)]
    by_cases g : A 2 ≤ b
    · rw [if_pos g]
      exact ⟨0, rfl, Or.inl rfl⟩
    · have hI := ia_I (ishr a b) 1
      rw [if_neg g, c2_ok hI.1 hI.2 (by decide) (by decide)]
      by_cases g2 : ia (ishr a b) 1 = 1
      · obtain ⟨d1, d2, d3⟩ := drop_bit2 a0 a1 b0 (by omega) g2
        have hz := hZ _ d1 d2
        rw [if_neg (by simpa using g2), ax_ok d1 (by omega), c1_ok (by omega) (by omega)]
        by_cases g4 : Z 43 (ix a (ishl 1 b)) = 0
        · rw [if_pos g4, B_X1_hasWayByLess_37]
          exact ih (b + 1) (by omega) (by omega) (by omega)
        · rw [if_neg g4]
          exact ⟨1, rfl, Or.inr ⟨rfl, _, d1, d2, d3, by omega⟩⟩
      · rw [if_pos g2, B_X1_hasWayByLess_37]
        exact ih (b + 1) (by omega) (by omega) (by omega)
theorem GL.fr {A : Int → Int} {nd r : Int} {X Y : Mem} (h : GL A nd r X) (e0 : ∀ i : Int, (3 ≤ i ∧ i ≤ 29) ∨ (70 ≤ i ∧ i ≤ 113) → Y i = X i) (e1 : ∀ k : Int, k = 11 ∨ k = 12 ∨ k = 13 ∨ k = 16 ∨ k = 17 ∨ k = 18 → Y 42 k = X 42 k) (e2 : Y 46 = X 46) : GL A nd r Y := by
  obtain ⟨g1, g2, g3, ⟨st, need, g4, g5, g6⟩, ⟨g7, g8⟩, g9⟩ := h
  refine ⟨g1, g2.fr2 g1 e0, by rw [e1 11 (by omega)]; exact g3, ⟨st, need, by rw [e1 12 (by omega)]; exact g4, by rw [e1 13 (by omega)]; exact g5, g6⟩, ⟨?_, ?_⟩, ?_⟩
  · rw [e1 16 (by omega)]
    exact g7
  · rw [e2]
    exact g8
  · unfold EDG at *
    rw [e1 17 (by omega), e1 18 (by omega)]
    exact g9
/-- what a search leaves -/
def SRC (A : Int → Int) (nd f to : Int) (n : Int) (Z : Mem) : Prop := (∀ a : Int, 0 ≤ a → a < n → (WAYP A nd f to a → Z 43 a = 1) ∧ (¬ WAYP A nd f to a → Z 43 a = 0)) ∧ (0 ≤ Z 42 2 ∧ Z 42 2 ≤ n) ∧ (∀ k : Int, 0 ≤ k → k < Z 42 2 → (0 ≤ Z 44 k ∧ Z 44 k < n) ∧ WAYP A nd f to (Z 44 k)) ∧ (∀ a : Int, 0 ≤ a → a < n → WAYP A nd f to a → ∃ k : Int, 0 ≤ k ∧ k < Z 42 2 ∧ sub (Z 44 k) a)
/-- only what a search writes -/
def FS (X Y : Mem) : Prop := (∀ i : Int, i ≠ 42 → i ≠ 43 → i ≠ 44 → Y i = X i) ∧ ∀ k : Int, k ≠ 2 → k ≠ 14 → k ≠ 15 → Y 42 k = X 42 k
theorem search_17 {X : Mem} {A : Int → Int} {nd r f to : Int} (hB : BD A) (f0 : 0 ≤ f) (f1 : f < A 0 * A 1) (t0 : 0 ≤ to) (t1 : to < A 0 * A 1) (hX : ∀ a : Int, 0 ≤ a → a < 32 → ∃ V : Int → Int → Int, FIX A nd a to V) : ∀ (k : Nat) (c : Int) (Z : Mem), 0 ≤ c → c ≤ NS A → (NS A - c).toNat < k → GL A nd r Z → FS X Z → Z 42 14 = f → Z 42 15 = to → SRC A nd f to c Z →
    ∃ Y : Mem, L_X1_search_17 k c Z = B_X1_search_93 Y ∧ GL A nd r Y ∧ FS X Y ∧ Y 42 14 = f ∧ Y 42 15 = to ∧ SRC A nd f to (NS A) Y := by
  have hN := NS_r hB.2.1
  intro k
  induction k with
  | zero => intro c Z _ _ hk; omega
  | succ k ih =>
    intro c Z c0 c1 hk hG hF z14 z15 hS
    have hG' := hG
    obtain ⟨g1, ⟨⟨-, -, r2, -⟩, -⟩, g3, -⟩ := hG'
    rw [L_X1_search_17, g3, cm_ok g1, show f_X2_setCount r Z = some (ishl 1 (Z r 2), Z) from rfl, cl_some, r2, show ishl 1 (A 2) = NS A from rfl, c2_ok (by omega) (by omega) (by omega) (by omega)]
    by_cases g : NS A ≤ c
    · rw [if_pos g]
      have e : c = NS A := by omega
      rw [e] at hS
      exact ⟨Z, rfl, hG, hF, z14, z15, hS⟩
    · obtain ⟨s1, s2, s3, s4⟩ := hS
      have hz01 : ∀ q : Int, 0 ≤ q → q < c → Z 43 q = 0 ∨ Z 43 q = 1 := by
        intro q q0 q1
        by_cases hw : WAYP A nd f to q
        · exact Or.inr ((s1 q q0 q1).1 hw)
        · exact Or.inl ((s1 q q0 q1).2 hw)
      obtain ⟨v, e1, e2⟩ := less_2 hB hG c0 (show c < 32 by omega) hz01 KF 0 (by decide) hB.2.1.1 (by rw [KF_eq]; have := hB.2.1; omega)
      have e1' : f_X1_hasWayByLess c Z = some (v, Z) := e1
      have hv : ia v 1 = v ∧ (v = 0 ∨ v = 1) := by
        rcases e2 with e | ⟨e, -⟩ <;> rw [e] <;> decide
      -- a memory after writing the row
      have hw43 : ∀ w : Int, GL A nd r (ms Z 43 c w) ∧ FS X (ms Z 43 c w) := fun w =>
        ⟨hG.fr (fun i h => ms_ne (by omega)) (fun k h => by rw [ms_ne (by decide)]) (ms_ne (by decide)), ⟨fun i a b d => by rw [ms_ne b]; exact hF.1 i a b d, fun k a b d => by rw [ms_ne (by decide)]; exact hF.2 k a b d⟩⟩
      rw [if_neg g, e1', cl_some, ax_ok c0 (by omega), bd_eq, hv.1, ax_ok c0 (by omega), ms_s, c1_ok (by omega) (by omega)]
      rcases e2 with e | ⟨e, q, q0, q1, q2, q3⟩
      · rw [e, if_neg (by decide)]
        obtain ⟨C, i1, i2⟩ := cellsBy_eq c hB (hw43 0).1
        obtain ⟨V, hV⟩ := hX c c0 (by omega)
        obtain ⟨w, j1, j2, j3⟩ := reaches_eq hB (hw43 0).1 hV f0 f1 t0 t1 i2 (by rw [ms_ne (by decide)]; exact z14) (by rw [ms_ne (by decide)]; exact z15)
        have hiff : WAYP A nd f to c ↔ (opn A nd c f ∧ V f 8 ≠ FAR) := by
          constructor
          · rintro ⟨W, h1, h2, h3⟩
            refine ⟨h2, ?_⟩
            rw [FIX_u hB hV h1 f0 f1 (by decide) (by decide)]
            exact h3
          · exact fun h => ⟨V, hV, h.1, h.2⟩
        rw [i1, cl_some, j1, cl_some]
        by_cases hw : WAYP A nd f to c
        · rw [j2 (hiff.mp hw), c1_ok (by decide) (by decide), if_neg (by decide), ax_ok c0 (by omega), bd_eq, ms_ms, show ia 1 1 = 1 from by decide, ms_ne (i := 43) (by decide), ax_ok s2.1 (by omega), bd_eq, bd_eq, ms_ne (i := 44) (by decide), ms_ne (i := 43) (by decide), B_X1_search_87]
          obtain ⟨Y', hY'⟩ : ∃ Y' : Mem, ms (ms (ms Z 43 c 1) 44 (Z 42 2) c) 42 2 (Z 42 2 + 1) = Y' := ⟨_, rfl⟩
          have y0 : ∀ i : Int, i ≠ 42 → i ≠ 43 → i ≠ 44 → Y' i = Z i := fun i a b d => by rw [← hY', ms_ne a, ms_ne d, ms_ne b]
          have y1 : ∀ k : Int, k ≠ 2 → Y' 42 k = Z 42 k := fun k h => by rw [← hY', ms_k h, ms_ne (by decide), ms_ne (by decide)]
          have y2 : Y' 42 2 = Z 42 2 + 1 := by rw [← hY', ms_s]
          have y3 : ∀ q : Int, Y' 43 q = if q = c then 1 else Z 43 q := fun q => by
            rw [← hY', ms_ne (by decide), ms_ne (by decide), ms_at]
            by_cases e : q = c
            · rw [if_pos ⟨rfl, e⟩, if_pos e]
            · rw [if_neg (fun h => e h.2), if_neg e]
          have y4 : ∀ q : Int, Y' 44 q = if q = Z 42 2 then c else Z 44 q := fun q => by
            rw [← hY', ms_ne (by decide), ms_at]
            by_cases e : q = Z 42 2
            · rw [if_pos ⟨rfl, e⟩, if_pos e]
            · rw [if_neg (fun h => e h.2), if_neg e, ms_ne (by decide)]
          rw [hY']
          refine ih (c + 1) Y' (by omega) (by omega) (by omega) (hG.fr (fun i h => y0 i (by omega) (by omega) (by omega)) (fun k h => y1 k (by omega)) (y0 46 (by decide) (by decide) (by decide))) ⟨fun i a b d => by rw [y0 i a b d]; exact hF.1 i a b d, fun k a b d => by rw [y1 k a]; exact hF.2 k a b d⟩ (by rw [y1 14 (by decide)]; exact z14) (by rw [y1 15 (by decide)]; exact z15) ⟨fun a a0 a1 => ?_, by omega, fun k k0 k1 => ?_, fun a a0 a1 hwa => ?_⟩
          · rw [y3]
            by_cases e : a = c
            · subst e
              rw [if_pos rfl]
              exact ⟨fun _ => rfl, fun h => absurd hw h⟩
            · rw [if_neg e]
              exact s1 a a0 (by omega)
          · rw [y4]
            by_cases e : k = Z 42 2
            · rw [if_pos e]
              exact ⟨by omega, hw⟩
            · rw [if_neg e]
              have := s3 k k0 (by omega)
              exact ⟨by omega, this.2⟩
          · by_cases e : a = c
            · refine ⟨Z 42 2, s2.1, by omega, ?_⟩
              rw [y4, if_pos rfl, e]
              exact fun b _ _ h => h
            · obtain ⟨k, k0, k1, k2⟩ := s4 a a0 (by omega) hwa
              refine ⟨k, k0, by omega, ?_⟩
              rw [y4, if_neg (by omega)]
              exact k2
        · rw [j3 (fun h => hw (hiff.mpr h)), c1_ok (by decide) (by decide), if_pos rfl, B_X1_search_87]
          refine ih (c + 1) _ (by omega) (by omega) (by omega) (hw43 0).1 (hw43 0).2 (by rw [ms_ne (by decide)]; exact z14) (by rw [ms_ne (by decide)]; exact z15) ⟨fun a a0 a1 => ?_, by rw [ms_ne (by decide)]; omega, fun k k0 k1 => ?_, fun a a0 a1 hwa => ?_⟩
          · by_cases e : a = c
            · subst e
              rw [ms_s]
              exact ⟨fun h => absurd h hw, fun _ => rfl⟩
            · rw [ms_k e]
              exact s1 a a0 (by omega)
          · rw [ms_ne (by decide)] at k1 ⊢
            have := s3 k k0 k1
            exact ⟨by omega, this.2⟩
          · by_cases e : a = c
            · rw [e] at hwa
              exact absurd hwa hw
            · rw [ms_ne (by decide), ms_ne (by decide)]
              exact s4 a a0 (by omega) hwa
      · have hwq : WAYP A nd f to q := by
          by_cases h : WAYP A nd f to q
          · exact h
          · have := (s1 q q0 q1).2 h
            omega
        have hw : WAYP A nd f to c := hwq.sub hB f0 f1 (hX c c0 (by omega)) q2
        rw [e, if_pos (by decide), B_X1_search_87]
        refine ih (c + 1) _ (by omega) (by omega) (by omega) (hw43 1).1 (hw43 1).2 (by rw [ms_ne (by decide)]; exact z14) (by rw [ms_ne (by decide)]; exact z15) ⟨fun a a0 a1 => ?_, by rw [ms_ne (by decide)]; omega, fun k k0 k1 => ?_, fun a a0 a1 hwa => ?_⟩
        · by_cases e : a = c
          · subst e
            rw [ms_s]
            exact ⟨fun _ => rfl, fun h => absurd hw h⟩
          · rw [ms_k e]
            exact s1 a a0 (by omega)
        · rw [ms_ne (by decide)] at k1 ⊢
          have := s3 k k0 k1
          exact ⟨by omega, this.2⟩
        · rw [ms_ne (by decide), ms_ne (by decide)]
          by_cases e : a = c
          · obtain ⟨k, k0, k1, k2⟩ := s4 q q0 q1 hwq
            refine ⟨k, k0, k1, fun b b0 b1 hb => ?_⟩
            rw [e]
            exact q2 b b0 b1 (k2 b b0 b1 hb)
          · exact s4 a a0 (by omega) hwa
theorem search_eq {X : Mem} {A : Int → Int} {nd r f to : Int} (hB : BD A) (hG : GL A nd r X) (f0 : 0 ≤ f) (f1 : f < A 0 * A 1) (t0 : 0 ≤ to) (t1 : to < A 0 * A 1) (hX : ∀ a : Int, 0 ≤ a → a < 32 → ∃ V : Int → Int → Int, FIX A nd a to V) :
    ∃ (v : Int) (Y : Mem), f_X1_search f to X = some (v, Y) ∧ GL A nd r Y ∧ FS X Y ∧ Y 42 14 = f ∧ Y 42 15 = to ∧ SRC A nd f to (NS A) Y ∧ (WAYP A nd f to (NS A - 1) → v = 1) ∧ (¬ WAYP A nd f to (NS A - 1) → v = 0) := by
  have hN := NS_r hB.2.1
  unfold f_X1_search
  rw [bd_eq, bd_eq, bd_eq]
  obtain ⟨Z, hZ⟩ : ∃ Z : Mem, ms (ms (ms X 42 14 f) 42 15 to) 42 2 0 = Z := ⟨_, rfl⟩
  have z0 : ∀ i : Int, i ≠ 42 → Z i = X i := fun i h => by rw [← hZ, ms_ne h, ms_ne h, ms_ne h]
  have z1 : ∀ k : Int, k ≠ 2 → k ≠ 14 → k ≠ 15 → Z 42 k = X 42 k := fun k a b d => by rw [← hZ, ms_k a, ms_k d, ms_k b]
  have z2 : Z 42 2 = 0 := by rw [← hZ, ms_s]
  have z14 : Z 42 14 = f := by rw [← hZ, ms_k (by decide), ms_k (by decide), ms_s]
  have z15 : Z 42 15 = to := by rw [← hZ, ms_k (by decide), ms_s]
  rw [hZ]
  obtain ⟨Y, e1, e2, e3, e4, e5, e6⟩ := search_17 (X := X) (r := r) hB f0 f1 t0 t1 hX KF 0 Z (by decide) (by omega) (by rw [KF_eq]; omega) (hG.fr (fun i h => z0 i (by omega)) (fun k h => z1 k (by omega) (by omega) (by omega)) (z0 46 (by decide))) ⟨fun i a _ _ => z0 i a, z1⟩ z14 z15 ⟨fun a a0 a1 => by omega, by omega, fun k k0 k1 => by omega, fun a a0 a1 => by omega⟩
  have hG' := e2
  obtain ⟨g1, ⟨⟨-, -, r2, -⟩, -⟩, g3, -⟩ := hG'
  have hs := e6.1 (NS A - 1) (by omega) (by omega)
  refine ⟨Y 43 (NS A - 1), Y, ?_, e2, e3, e4, e5, e6, hs.1, hs.2⟩
  rw [e1, B_X1_search_93, g3, cm_ok g1, show f_X2_setCount r Y = some (ishl 1 (Y r 2), Y) from rfl, cl_some, r2, show ishl 1 (A 2) = NS A from rfl, ax_ok (by omega) (by omega), cz_ok]
  by_cases hw : WAYP A nd f to (NS A - 1)
  · exact Or.inr (hs.1 hw)
  · exact Or.inl (hs.2 hw)
/-- a fixed point is always there -/
theorem fix_ex {A : Int → Int} (hB : BD A) {d o to a : Int} (d0 : 0 ≤ d) (d1 : d ≤ 5000) (o0 : 0 ≤ o) (o1 : o ≤ A 6) (t0 : 0 ≤ to) (t1 : to < A 0 * A 1) (a0 : 0 ≤ a) (a1 : a < 32) : ∃ V : Int → Int → Int, FIX A (A 5 - o - stg A d) a to V := by
  obtain ⟨B, hBe⟩ : ∃ B : Int → Int, up (up A 3 d) 4 o = B := ⟨_, rfl⟩
  have b3 : B 3 = d := by rw [← hBe, up_ne (by decide), up_same]
  have b4 : B 4 = o := by rw [← hBe, up_same]
  have be : ∀ k : Int, k ≠ 3 → k ≠ 4 → B k = A k := fun k h1 h2 => by rw [← hBe, up_ne h2, up_ne h1]
  have hBB : BD B := by
    obtain ⟨h0, h2, h3, h4, h5, h6, h7, h8, h9, h10, h11, h12, h13, h14, hs, hb, hd, ho⟩ := hB
    unfold BD
    rw [b3, b4, be 0 (by decide) (by decide), be 1 (by decide) (by decide), be 2 (by decide) (by decide), be 5 (by decide) (by decide), be 6 (by decide) (by decide), be 7 (by decide) (by decide), be 8 (by decide) (by decide), be 9 (by decide) (by decide), be 10 (by decide) (by decide), be 11 (by decide) (by decide), be 12 (by decide) (by decide), be 13 (by decide) (by decide), be 14 (by decide) (by decide)]
    refine ⟨h0, h2, ⟨d0, d1⟩, ⟨o0, o1⟩, h5, h6, h7, h8, h9, h10, h11, h12, h13, h14, fun e a b => ?_, fun j a b => ?_, fun c a b => ?_, fun c a b => ?_⟩
    · rw [be _ (by omega) (by omega)]; exact hs e a b
    · rw [be _ (by omega) (by omega)]; exact hb j a b
    · rw [be _ (by omega) (by omega)]; exact hd c a b
    · rw [be _ (by omega) (by omega)]; exact ho c a b
  have hq : EQR B A := fun k hk => (be k (by omega) (by omega)).symm
  have hst : stg B d = stg A d := by
    unfold stg
    rw [be 13 (by decide) (by decide)]
    split
    · rw [be _ (by omega) (by omega)]
    · rfl
  obtain ⟨O, M, -, h2, -⟩ := reckons_eq (X := fun i => if i = 121 then B else fun _ => 0) (to := to) (a := a) hBB t0 (by show to < B 0 * B 1; rw [be 0 (by decide) (by decide), be 1 (by decide) (by decide)]; exact t1) ⟨by omega, by omega⟩
  have h3 : FIX B (ND B) a to (fun c h => M (9 * c + h)) := h2
  have hnd : ND B = A 5 - o - stg A d := by
    unfold ND
    rw [b3, b4, be 5 (by decide) (by decide), hst]
  rw [hnd] at h3
  exact ⟨_, h3.exr hBB hq⟩
