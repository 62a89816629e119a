/-! the class searches -/
theorem ia1_r (x : Int) : ia x 1 = 0 ∨ ia x 1 = 1 := by
  unfold ia
  have h : ∀ v : BitVec 32, v &&& 1#32 = 0#32 ∨ v &&& 1#32 = 1#32 := by
    intro v
    by_cases h0 : v.getLsbD 0
    · right
      apply BitVec.eq_of_getLsbD_eq
      intro i hi
      rw [BitVec.getLsbD_and]
      by_cases e : i = 0
      · subst e
        rw [h0]
        rfl
      · rw [BitVec.getLsbD_one]
        simp [e]
    · left
      apply BitVec.eq_of_getLsbD_eq
      intro i hi
      rw [BitVec.getLsbD_and]
      by_cases e : i = 0
      · subst e
        rw [show v.getLsbD 0 = false from by
          cases hh : v.getLsbD 0 with
          | false => rfl
          | true => exact absurd hh h0]
        rfl
      · rw [BitVec.getLsbD_one]
        simp [e]
  rcases h (Int32.ofInt x).toBitVec with e | e
  · left
    have : Int32.ofInt x &&& Int32.ofInt 1 = 0 := Int32.toBitVec.inj e
    rw [this]
    rfl
  · right
    have : Int32.ofInt x &&& Int32.ofInt 1 = 1 := Int32.toBitVec.inj e
    rw [this]
    rfl
def inb (p t : Int) : Prop := ∃ j : Nat, (j : Int) = t ∧ btl p j = true
theorem inb_nat {p : Int} {j : Nat} : inb p j ↔ btl p j = true := by
  constructor
  · rintro ⟨i, e, h⟩
    rw [show j = i by omega]
    exact h
  · exact fun h => ⟨j, rfl, h⟩
theorem inb_r {p t : Int} (h : inb p t) : 0 ≤ t ∧ t < 64 := by
  obtain ⟨j, e, h⟩ := h
  refine ⟨by omega, ?_⟩
  by_cases g : j < 64
  · omega
  · rw [btl_ge (by omega)] at h
    cases h
theorem cellsBy_8 {Y : Mem} {A : Int → Int} {nd r a : Int} (hB : BD A) (hG : GL A nd r Y) : ∀ (k : Nat) (b acc : Int), 0 ≤ b → b ≤ A 2 → (A 2 - b).toNat < k → (∀ i : Nat, i < 64 → (btl acc i = true ↔ (i : Int) < A 0 * A 1 ∧ (knd A nd i = 2 ∨ (knd A nd i = 1 ∧ 0 ≤ A (108 + (i : Int)) ∧ A (108 + (i : Int)) < b ∧ ia (ishr a (A (108 + (i : Int)))) 1 = 1)))) →
    ∃ v : Int, L_X1_cellsBy_8 k a acc b Y = some (v, Y) ∧ ∀ i : Nat, i < 64 → (btl v i = true ↔ (i : Int) < A 0 * A 1 ∧ opn A nd a i) := by
  have hB2 := hB.2.1
  obtain ⟨g1, ⟨⟨-, -, r2, -⟩, -⟩, g3, -, ⟨o1, o2⟩, -⟩ := hG
  intro k
  induction k with
  | zero => intro b acc _ _ hk; omega
  | succ k ih =>
    intro b acc b0 b1 hk hA
    rw [L_X1_cellsBy_8, g3, cm_ok g1, r2, c2_ok (by omega) (by omega) (by omega) (by omega)]
    by_cases g : A 2 ≤ b
    · rw [if_pos g]
      refine ⟨acc, rfl, fun i hi => ?_⟩
      rw [hA i hi, opn_knd]
      constructor
      · rintro ⟨h1, h2 | ⟨h2, h3, h4, h5⟩⟩
        · exact ⟨h1, Or.inl h2⟩
        · exact ⟨h1, Or.inr ⟨h2, h5⟩⟩
      · rintro ⟨h1, h2 | ⟨h2, h3⟩⟩
        · exact ⟨h1, Or.inl h2⟩
        · have hcl := BD_cells hB
          have ho := hB.2.2.2.2.2.2.2.2.2.2.2.2.2.2.2.2.2 i (by omega) (by omega)
          refine ⟨h1, Or.inr ⟨h2, ?_, by omega, h3⟩⟩
          by_cases e : A (108 + (i : Int)) = -1
          · exfalso
            unfold knd tk at h2
            rw [if_pos e] at h2
            split at h2 <;> omega
          · omega
    · have hI := ia_I (ishr a b) 1
      rw [if_neg g, c2_ok hI.1 hI.2 (by decide) (by decide)]
      by_cases g2 : ia (ishr a b) 1 = 1
      · rw [if_neg (by simpa using g2), ax_ok b0 (by omega), bd_eq, B_X1_cellsBy_40]
        refine ih (b + 1) _ (by omega) (by omega) (by omega) fun i hi => ?_
        rw [btl_lo, Bool.or_eq_true, hA i hi, o2 b b0 (by omega) i hi]
        constructor
        · rintro (⟨h1, h2 | ⟨h2, h3, h4, h5⟩⟩ | ⟨h1, h2, h3⟩)
          · exact ⟨h1, Or.inl h2⟩
          · exact ⟨h1, Or.inr ⟨h2, h3, by omega, h5⟩⟩
          · exact ⟨h1, Or.inr ⟨h2, by omega, by omega, by rw [h3]; exact g2⟩⟩
        · rintro ⟨h1, h2 | ⟨h2, h3, h4, h5⟩⟩
          · exact Or.inl ⟨h1, Or.inl h2⟩
          · by_cases e : A (108 + (i : Int)) = b
            · exact Or.inr ⟨h1, h2, e⟩
            · exact Or.inl ⟨h1, Or.inr ⟨h2, h3, by omega, h5⟩⟩
      · rw [if_pos g2, B_X1_cellsBy_40]
        refine ih (b + 1) _ (by omega) (by omega) (by omega) fun i hi => ?_
        rw [hA i hi]
        constructor
        · rintro ⟨h1, h2 | ⟨h2, h3, h4, h5⟩⟩
          · exact ⟨h1, Or.inl h2⟩
          · exact ⟨h1, Or.inr ⟨h2, h3, by omega, h5⟩⟩
        · rintro ⟨h1, h2 | ⟨h2, h3, h4, h5⟩⟩
          · exact ⟨h1, Or.inl h2⟩
          · by_cases e : A (108 + (i : Int)) = b
            · rw [e] at h5
              exact absurd h5 g2
            · exact ⟨h1, Or.inr ⟨h2, h3, by omega, h5⟩⟩
theorem cellsBy_eq {Y : Mem} {A : Int → Int} {nd r : Int} (a : Int) (hB : BD A) (hG : GL A nd r Y) : ∃ v : Int, f_X1_cellsBy a Y = some (v, Y) ∧ ∀ t : Int, inb v t ↔ (0 ≤ t ∧ t < A 0 * A 1 ∧ opn A nd a t) := by
  have hcl := BD_cells hB
  unfold f_X1_cellsBy
  rw [bd_eq]
  obtain ⟨v, h1, h2⟩ := cellsBy_8 (a := a) hB hG KF 0 (Y 42 16) (by decide) hB.2.1.1 (by rw [KF_eq]; have := hB.2.1; omega) (fun i hi => by
    rw [hG.2.2.2.2.1.1 i hi]
    constructor
    · exact fun h => ⟨h.1, Or.inl h.2⟩
    · rintro ⟨a1, a2 | a2⟩
      · exact ⟨a1, a2⟩
      · omega)
  refine ⟨v, h1, fun t => ?_⟩
  constructor
  · intro h
    have hr := inb_r h
    obtain ⟨j, e, hb⟩ := h
    rw [h2 j (by omega), e] at hb
    exact ⟨hr.1, hb⟩
  · rintro ⟨t0, t1, t2⟩
    obtain ⟨j, rfl⟩ : ∃ j : Nat, (j : Int) = t := ⟨t.toNat, Int.toNat_of_nonneg t0⟩
    rw [inb_nat, h2 j (by omega)]
    exact ⟨t1, t2⟩
theorem spread_eq {Y : Mem} {A : Int → Int} {nd r p : Int} (hB : BD A) (hG : GL A nd r Y) (hw : 0 < A 0) (hp : ∀ t : Int, inb p t → t < A 0 * A 1) : ∃ v : Int, f_X1_spread p Y = some (v, Y) ∧ inJ v ∧ ∀ t : Int, 0 ≤ t → t < A 0 * A 1 → (inb v t ↔ ∃ u : Int, inb p u ∧ adj A t u) := by
  have hcl := BD_cells hB
  obtain ⟨g1, ⟨⟨r0, -⟩, -⟩, g3, -, -, g6⟩ := hG
  have hE := g6 hw
  have hwr : 2 ≤ A 0 ∧ A 0 ≤ 10 := by
    have := hB.1
    omega
  obtain ⟨W, hW⟩ : ∃ W : Nat, (W : Int) = A 0 := ⟨(A 0).toNat, Int.toNat_of_nonneg (by omega)⟩
  unfold f_X1_spread
  rw [bd_eq, g3, cm_ok g1, cm_ok g1, r0, ← hW]
  refine ⟨_, rfl, lo_J _ _, ?_⟩
  -- the row of three
  have hv1 : ∀ j : Nat, btl (lo (lo p (lushr (la p (lx (Y 42 17) (-1))) 1)) (lshl (la p (lx (Y 42 18) (-1))) 1)) j = true ↔ (inb p j ∨ (inb p ((j : Int) + 1) ∧ ((j : Int) + 1) % A 0 ≠ 0) ∨ (1 ≤ (j : Int) ∧ inb p ((j : Int) - 1) ∧ ((j : Int) - 1) % A 0 ≠ A 0 - 1)) := by
    intro j
    have a1 : btl (lushr (la p (lx (Y 42 17) (-1))) 1) j = btl (la p (lx (Y 42 17) (-1))) (1 + j) := btl_lushr (k := 1) (by decide)
    have a2 : btl (lshl (la p (lx (Y 42 18) (-1))) 1) j = (decide (j < 64) && !decide (j < 1) && btl (la p (lx (Y 42 18) (-1))) (j - 1)) := btl_lshl (k := 1) (by decide)
    rw [btl_lo, btl_lo, a1, a2, btl_la, btl_la]
    simp only [Bool.or_eq_true, Bool.and_eq_true, decide_eq_true_eq, Bool.not_eq_true', decide_eq_false_iff_not]
    have s1 : ((j : Int) + 1) = ((1 + j : Nat) : Int) := by omega
    constructor
    · rintro ((h | ⟨h1, h2⟩) | ⟨⟨h0, h1⟩, h2, h3⟩)
      · exact Or.inl (inb_nat.mpr h)
      · have hc := hp _ (inb_nat.mpr h1)
        refine Or.inr (Or.inl ⟨by rw [s1]; exact inb_nat.mpr h1, fun e => ?_⟩)
        rw [btl_n (by omega)] at h2
        have := ((hE (1 + j) hc).1).mpr (by rw [← s1]; exact e)
        rw [this] at h2
        cases h2
      · have hc := hp _ (inb_nat.mpr h2)
        have s2 : ((j : Int) - 1) = ((j - 1 : Nat) : Int) := by omega
        refine Or.inr (Or.inr ⟨by omega, by rw [s2]; exact inb_nat.mpr h2, fun e => ?_⟩)
        rw [btl_n (by omega)] at h3
        have := ((hE (j - 1) hc).2).mpr (by rw [← s2]; exact e)
        rw [this] at h3
        cases h3
    · rintro (h | ⟨h1, h2⟩ | ⟨h1, h2, h3⟩)
      · exact Or.inl (Or.inl (inb_nat.mp h))
      · rw [s1] at h1 h2
        have hc := hp _ h1
        refine Or.inl (Or.inr ⟨inb_nat.mp h1, ?_⟩)
        rw [btl_n (by omega)]
        cases hb : btl (Y 42 17) (1 + j) with
        | false => rfl
        | true => exact absurd (((hE (1 + j) hc).1).mp hb) h2
      · have s2 : ((j : Int) - 1) = ((j - 1 : Nat) : Int) := by omega
        rw [s2] at h2 h3
        have hc := hp _ h2
        refine Or.inr ⟨⟨by omega, by omega⟩, inb_nat.mp h2, ?_⟩
        rw [btl_n (by omega)]
        cases hb : btl (Y 42 18) (j - 1) with
        | false => rfl
        | true => exact absurd (((hE (j - 1) hc).2).mp hb) h3
  intro t t0 t1
  rw [hW] at t1
  have hs := sprd_idx (W := A 0) (H := A 1) (i := t) (P := inb p) hwr.1 hwr.2 (fun u hu => ⟨(inb_r hu).1, hp u hu⟩) t0 t1
  have had : (∃ u : Int, inb p u ∧ adj A t u) ↔ ∃ u : Int, inb p u ∧ (-1 ≤ u % A 0 - t % A 0 ∧ u % A 0 - t % A 0 ≤ 1) ∧ (-1 ≤ u / A 0 - t / A 0 ∧ u / A 0 - t / A 0 ≤ 1) := Iff.rfl
  rw [had, ← hs]
  obtain ⟨j, rfl⟩ : ∃ j : Nat, (j : Int) = t := ⟨t.toNat, Int.toNat_of_nonneg t0⟩
  rw [inb_nat, btl_lo, btl_lo, btl_lushr (k := W) (by omega), btl_lshl (k := W) (by omega)]
  simp only [Bool.or_eq_true, Bool.and_eq_true, decide_eq_true_eq, Bool.not_eq_true', decide_eq_false_iff_not]
  rw [hv1 j, hv1 (W + j), hv1 (j - W), show ((W + j : Nat) : Int) = (j : Int) + A 0 by omega]
  constructor
  · rintro ((h | h) | ⟨⟨h1, h2⟩, h3⟩)
    · exact Or.inl h
    · exact Or.inr (Or.inl h)
    · rw [show ((j - W : Nat) : Int) = (j : Int) - A 0 by omega] at h3
      exact Or.inr (Or.inr ⟨by omega, h3⟩)
  · rintro (h | h | ⟨h1, h2⟩)
    · exact Or.inl (Or.inl h)
    · exact Or.inl (Or.inr h)
    · refine Or.inr ⟨⟨by omega, by omega⟩, ?_⟩
      rw [show ((j - W : Nat) : Int) = (j : Int) - A 0 by omega]
      exact h2
section WAY2
variable {A : Int → Int} {nd a to : Int} {V : Int → Int → Int}
/-- reached in so many steps -/
def pth (A : Int → Int) (nd a f : Int) : Nat → Int → Prop
  | 0, x => x = f ∧ opn A nd a x
  | n + 1, x => pth A nd a f n x ∨ ∃ y g, pth A nd a f n y ∧ (0 ≤ g ∧ g < 8) ∧ ld A y g ≠ -1 ∧ x = ld A y g ∧ opn A nd a x
theorem pth.le {f x : Int} {n m : Nat} (h : pth A nd a f n x) (hm : n ≤ m) : pth A nd a f m x := by
  induction m with
  | zero =>
    rw [show n = 0 by omega] at h
    exact h
  | succ m ih =>
    by_cases e : n = m + 1
    · rw [← e]
      exact h
    · exact Or.inl (ih (by omega))
theorem chn_pth {f : Int} : ∀ (n k : Nat) (c h : Int), chn A nd a to V n c h → pth A nd a f k c → pth A nd a f (k + n) to
  | 0, k, c, h, hc, hp => by
    have e : c = to := hc
    rw [← e]
    exact hp
  | n + 1, k, c, h, hc, hp => by
    rcases hc with e | ⟨e, n', g, hs, hc⟩
    · rw [← e]
      exact hp.le (by omega)
    · have := chn_pth n (k + 1) n' g hc (Or.inr ⟨c, g, hp, hs.1, hs.2.1, hs.2.2.1, hs.2.2.2.1⟩)
      rw [show k + 1 + n = k + (n + 1) by omega] at this
      exact this
/-- a cell with a way: from every heading -/
theorem way_all (hB : BD A) (hF : FIX A nd a to V) {c h k : Int} (c0 : 0 ≤ c) (c1 : c < A 0 * A 1) (h0 : 0 ≤ h) (h1 : h < 9) (k0 : 0 ≤ k) (k1 : k < 9) (ho : opn A nd a c) (hV : V c k ≠ FAR) : V c h ≠ FAR := by
  by_cases e : c = to
  · rw [(hF c c0 c1 h h0 h1).2.1 ho e]
    decide
  · rcases ((hF c c0 c1 k k0 k1).2.2.2 ho e).2 with q | ⟨g, g0, g1, e1, e2, e3, e4⟩
    · exact absurd q hV
    · have h5 := ((hF c c0 c1 h h0 h1).2.2.2 ho e).1 g g0 g1 e1 e2 e3
      have hr := ld_r hB e1
      have := V_b hB hF hr.1 hr.2 g0 (show g < 9 by omega) e2 e3
      have := stp_r hB (g := g)
      have := trn_r hB h0 h1 g0 g1
      unfold FAR
      omega
theorem way_adj (hB : BD A) (hF : FIX A nd a to V) {x y : Int} (x0 : 0 ≤ x) (x1 : x < A 0 * A 1) (y0 : 0 ≤ y) (y1 : y < A 0 * A 1) (hx : opn A nd a x) (hy : opn A nd a y) (h : adj A y x) (hV : V x 8 ≠ FAR) : V y 8 ≠ FAR := by
  by_cases e : x = y
  · rw [← e]
    exact hV
  · by_cases e2 : y = to
    · rw [(hF y y0 y1 8 (by decide) (by decide)).2.1 hy e2]
      decide
    · obtain ⟨g, g0, g1, hg⟩ := adj_ld hB y0 y1 x0 x1 h e
      have hVg := way_all hB hF x0 x1 g0 (show g < 9 by omega) (by decide) (by decide) hx hV
      have h5 := ((hF y y0 y1 8 (by decide) (by decide)).2.2.2 hy e2).1 g g0 g1 (by omega) (by rw [hg]; exact hx) (by rw [hg]; exact hVg)
      rw [hg] at h5
      have := V_b hB hF x0 x1 g0 (show g < 9 by omega) hx hVg
      have := stp_r hB (g := g)
      have := trn_r hB (h := 8) (g := g) (by decide) (by decide) g0 g1
      unfold FAR
      omega
end WAY2
theorem reaches_20 {Y : Mem} {A : Int → Int} {nd r a f to C goal : Int} {V : Int → Int → Int} (hB : BD A) (hG : GL A nd r Y) (hw : 0 < A 0) (hF : FIX A nd a to V) (f0 : 0 ≤ f) (f1 : f < A 0 * A 1) (t0 : 0 ≤ to) (t1 : to < A 0 * A 1) (hC : ∀ t : Int, inb C t ↔ (0 ≤ t ∧ t < A 0 * A 1 ∧ opn A nd a t)) (hg : goal = lshl 1 to) : ∀ (k c : Nat) (R : Int), c ≤ 60 → 60 - c < k → inJ R → (∀ x : Int, inb R x → (0 ≤ x ∧ x < A 0 * A 1) ∧ opn A nd a x ∧ opn A nd a f ∧ (V x 8 ≠ FAR → V f 8 ≠ FAR)) → (∀ x : Int, pth A nd a f c x → inb R x) →
    ∃ v : Int, L_X1_reaches_20 k C goal R c Y = some (v, Y) ∧ (opn A nd a f ∧ V f 8 ≠ FAR → v = 1) ∧ (¬ (opn A nd a f ∧ V f 8 ≠ FAR) → v = 0) := by
  have hcl := BD_cells hB
  -- the end, out of what was reached
  have fin : ∀ R : Int, (∀ x : Int, inb R x → (0 ≤ x ∧ x < A 0 * A 1) ∧ opn A nd a x ∧ opn A nd a f ∧ (V x 8 ≠ FAR → V f 8 ≠ FAR)) → (∀ x : Int, pth A nd a f 59 x → inb R x) → ∃ v : Int, B_X1_reaches_58 goal R Y = some (v, Y) ∧ (opn A nd a f ∧ V f 8 ≠ FAR → v = 1) ∧ (¬ (opn A nd a f ∧ V f 8 ≠ FAR) → v = 0) := by
    intro R h1 h2
    obtain ⟨T, hT⟩ : ∃ T : Nat, (T : Int) = to := ⟨to.toNat, Int.toNat_of_nonneg t0⟩
    have hl := la_J R goal
    unfold B_X1_reaches_58
    rw [d2_ok hl.1 hl.2 (by decide) (by decide)]
    have hbit : la R goal = 0 ↔ ¬ inb R to := by
      rw [la_zero, hg, ← hT]
      constructor
      · intro h hi
        have := h T (by omega)
        rw [inb_nat.mp hi, btl_one (by omega), decide_eq_true rfl] at this
        cases this
      · intro h i hi
        rw [btl_one (by omega)]
        by_cases e : i = T
        · subst e
          cases hb : btl R i with
          | false => rfl
          | true => exact absurd (inb_nat.mpr hb) h
        · rw [decide_eq_false e, Bool.and_false]
    by_cases hi : inb R to
    · rw [if_neg (fun q => (hbit.mp q) hi)]
      obtain ⟨-, o1, o2, o3⟩ := h1 to hi
      refine ⟨1, rfl, fun _ => rfl, fun q => absurd ⟨o2, o3 ?_⟩ q⟩
      rw [(hF to t0 t1 8 (by decide) (by decide)).2.1 o1 rfl]
      decide
    · rw [if_pos (hbit.mpr hi)]
      refine ⟨0, rfl, fun q => absurd (h2 to ?_) hi, fun _ => rfl⟩
      have h3 := chn_59 hB hF f0 f1 (show (0 : Int) ≤ 8 by decide) (by decide) q.1 q.2
      have h4 := chn_pth (f := f) 59 0 f 8 h3 ⟨rfl, q.1⟩
      exact h4
  intro k
  induction k with
  | zero => intro c R _ hk; omega
  | succ k ih =>
    intro c R hc hk hJ h1 h2
    rw [L_X1_reaches_20, c2_ok (by omega) (by omega) (by decide) (by decide)]
    by_cases g : 60 ≤ (c : Int)
    · rw [if_pos g]
      exact fin R h1 fun x hx => h2 x (hx.le (by omega))
    · obtain ⟨v, e1, e2, e3⟩ := spread_eq (p := R) hB hG hw fun t ht => (h1 t ht).1.2
      have hl := la_J v C
      have hv5 : ∀ t : Int, inb (la v C) t ↔ (0 ≤ t ∧ t < A 0 * A 1 ∧ opn A nd a t) ∧ ∃ u : Int, inb R u ∧ adj A t u := by
        intro t
        constructor
        · intro h
          have hr := inb_r h
          obtain ⟨j, rfl⟩ : ∃ j : Nat, (j : Int) = t := ⟨t.toNat, Int.toNat_of_nonneg hr.1⟩
          rw [inb_nat, btl_la, Bool.and_eq_true] at h
          have h6 := (hC j).mp (inb_nat.mpr h.2)
          exact ⟨h6, (e3 j h6.1 h6.2.1).mp (inb_nat.mpr h.1)⟩
        · rintro ⟨h6, h7⟩
          obtain ⟨j, rfl⟩ : ∃ j : Nat, (j : Int) = t := ⟨t.toNat, Int.toNat_of_nonneg h6.1⟩
          rw [inb_nat, btl_la, Bool.and_eq_true]
          exact ⟨inb_nat.mp ((e3 j h6.1 h6.2.1).mpr h7), inb_nat.mp ((hC j).mpr h6)⟩
      have i1 : ∀ x : Int, inb (la v C) x → (0 ≤ x ∧ x < A 0 * A 1) ∧ opn A nd a x ∧ opn A nd a f ∧ (V x 8 ≠ FAR → V f 8 ≠ FAR) := by
        intro x hx
        obtain ⟨⟨x0, x1, x2⟩, u, u1, u2⟩ := (hv5 x).mp hx
        obtain ⟨⟨w0, w1⟩, w2, w3, w4⟩ := h1 u u1
        exact ⟨⟨x0, x1⟩, x2, w3, fun q => w4 (way_adj hB hF x0 x1 w0 w1 x2 w2 u2.symm q)⟩
      have stepP : ∀ (n : Nat), (∀ x : Int, pth A nd a f n x → inb R x) → ∀ x : Int, pth A nd a f (n + 1) x → inb (la v C) x := by
        intro n hn x hx
        rw [hv5]
        rcases hx with hx | ⟨y, g, y1, -, y2, y3, y4⟩
        · have h5 := hn x hx
          have h6 := h1 x h5
          exact ⟨⟨h6.1.1, h6.1.2, h6.2.1⟩, x, h5, by unfold adj; omega⟩
        · have h5 := hn y y1
          have hr := ld_r hB y2
          rw [← y3] at hr
          refine ⟨⟨hr.1, hr.2, y4⟩, y, h5, ?_⟩
          have := ld_adj hB y2
          rw [← y3] at this
          exact this.symm
      rw [if_neg g, e1, cl_some, bd_eq, d2_ok hl.1 hl.2 hJ.1 hJ.2]
      by_cases g2 : la v C = R
      · rw [if_neg (by simpa using g2), B_X1_reaches_45]
        refine fin R h1 ?_
        have all : ∀ n : Nat, ∀ x : Int, pth A nd a f (c + n) x → inb R x := by
          intro n
          induction n with
          | zero => exact h2
          | succ n im =>
            intro x hx
            have := stepP (c + n) im x hx
            rw [g2] at this
            exact this
        intro x hx
        refine all 59 x (hx.le (by omega))
      · rw [if_pos g2, show (c : Int) + 1 = ((c + 1 : Nat) : Int) from rfl]
        exact ih (c + 1) _ (by omega) (by omega) hl i1 (stepP c h2)
theorem reaches_eq {Y : Mem} {A : Int → Int} {nd r a f to C : Int} {V : Int → Int → Int} (hB : BD A) (hG : GL A nd r Y) (hF : FIX A nd a to V) (f0 : 0 ≤ f) (f1 : f < A 0 * A 1) (t0 : 0 ≤ to) (t1 : to < A 0 * A 1) (hC : ∀ t : Int, inb C t ↔ (0 ≤ t ∧ t < A 0 * A 1 ∧ opn A nd a t)) (hf : Y 42 14 = f) (ht : Y 42 15 = to) :
    ∃ v : Int, f_X1_reaches C Y = some (v, Y) ∧ (opn A nd a f ∧ V f 8 ≠ FAR → v = 1) ∧ (¬ (opn A nd a f ∧ V f 8 ≠ FAR) → v = 0) := by
  have hcl := BD_cells hB
  have hw := (BD_w hB f0 f1).1
  unfold f_X1_reaches
  rw [bd_eq, bd_eq, hf, ht]
  obtain ⟨F, hFn⟩ : ∃ F : Nat, (F : Int) = f := ⟨f.toNat, Int.toNat_of_nonneg f0⟩
  have hin : ∀ t : Int, inb (la (lshl 1 f) C) t ↔ t = f ∧ opn A nd a f := by
    intro t
    constructor
    · intro h
      have hr := inb_r h
      obtain ⟨j, rfl⟩ : ∃ j : Nat, (j : Int) = t := ⟨t.toNat, Int.toNat_of_nonneg hr.1⟩
      rw [inb_nat, btl_la, Bool.and_eq_true, ← hFn, btl_one (by omega), decide_eq_true_eq] at h
      have h6 := (hC j).mp (inb_nat.mpr h.2)
      have e : (j : Int) = f := by rw [h.1, hFn]
      rw [e] at h6
      exact ⟨e, h6.2.2⟩
    · rintro ⟨rfl, h⟩
      rw [← hFn, inb_nat, btl_la, Bool.and_eq_true, btl_one (by omega), decide_eq_true_eq]
      exact ⟨rfl, inb_nat.mp ((hC F).mpr ⟨by omega, by omega, by rw [hFn]; exact h⟩)⟩
  exact reaches_20 hB hG (by omega) hF f0 f1 t0 t1 hC rfl KF 0 _ (by decide) (by rw [KF_eq]; decide) (la_J _ _) (fun x hx => by
    obtain ⟨rfl, h⟩ := (hin x).mp hx
    exact ⟨⟨f0, f1⟩, h, h, fun q => q⟩) (fun x hx => (hin x).mpr ⟨hx.1, hx.1 ▸ hx.2⟩)
