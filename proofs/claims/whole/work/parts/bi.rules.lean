/-! rules: what a reader holds while it reads -/
abbrev Rul : Type := (Int → Int) × Int × Int × (Int → Int)
def Rul.A (S : Rul) : Int → Int := S.1
def Rul.steps (S : Rul) : Int := S.2.1
def Rul.deep (S : Rul) : Int := S.2.2.1
def Rul.O (S : Rul) : Int → Int := S.2.2.2
/-- a line but for its partner -/
def LNa (X : Mem) (u : Int) (A : Int → Int) (k : Int) : Prop := cdm (X (u + 1) k) (A (200 + 4 * k)) ∧ (0 ≤ A (200 + 4 * k + 1) ∧ A (200 + 4 * k + 1) < 5) ∧
  (X (u + 1) k = 1 ∨ X (u + 1) k = 2 ∨ X (u + 1) k = 9 ∨ X (u + 1) k = 10 → X (u + 2) k = A (200 + 4 * k + 1)) ∧
  (0 ≤ A (200 + 4 * k + 2) ∧ A (200 + 4 * k + 2) ≤ 16) ∧ (X (u + 1) k ≠ 0 → X (u + 3) k = A (200 + 4 * k + 2)) ∧ (X (u + 1) k = 6 ∨ X (u + 1) k = 3 ∨ X (u + 1) k = 4 → A (200 + 4 * k + 2) ≤ 9) ∧ (X (u + 1) k = 6 → 1 ≤ A (200 + 4 * k + 2))
def LNb (X : Mem) (u : Int) (A : Int → Int) (m k : Int) : Prop := X (u + 1) k = 0 ∨ X (u + 1) k = 6 ∨ X (u + 1) k = 9 ∨ X (u + 1) k = 10 ∨ X (u + 1) k = 11 → X (u + 4) k = A (200 + 4 * k + 3) ∧ 0 ≤ A (200 + 4 * k + 3) ∧ A (200 + 4 * k + 3) < m
def isOp (S : Rul) (k : Int) : Prop := ∃ i : Int, 0 ≤ i ∧ i < S.deep ∧ S.O i = k
/-- the names in force: a river r of the class, slot 0 of the reference -/
def NMX (r m0 : Int) (N0 : Int → Int) (X : Mem) : Prop := X r 2 = m0 ∧ ∀ b : Int, 0 ≤ b → b < m0 → NM (X (r + 4) b) (N0 b)
def NMZ (m0 : Int) (N0 : Int → Int) (Z : Mem) : Prop := Z 121 2 = m0 ∧ ∀ b : Int, 0 ≤ b → b < m0 → Z 122 b = N0 b
/-- the class: with ln lines told -/
def PCW (ln u r m0 : Int) (N0 : Int → Int) (S : Rul) (X : Mem) : Prop := (X 38 2 = u ∧ X 38 3 = r ∧ X 38 4 = S.deep ∧ X u 0 = ln ∧ X u 1 = S.steps) ∧ (∀ i : Int, 0 ≤ i → i < S.deep → X 39 i = S.O i) ∧ NMX r m0 N0 X ∧ (∀ k : Int, 0 ≤ k → k < S.A 14 → LNa X u S.A k) ∧ ∀ k : Int, 0 ≤ k → k < S.A 14 → ¬ isOp S k → LNb X u S.A (S.A 14) k
def PCU (u r m0 : Int) (N0 : Int → Int) (S : Rul) (X : Mem) : Prop := PCW (S.A 14) u r m0 N0 S X
/-- the reference: with ln lines, st steps told, the lines below S's -/
def PMV (m0 : Int) (N0 : Int → Int) (S : Rul) (ln st : Int) (Z : Mem) : Prop := (Z 121 1774 = ln ∧ Z 120 24 = S.deep ∧ Z 120 25 = st) ∧ (∀ i : Int, 0 ≤ i → i < S.deep → Z 129 i = S.O i) ∧ NMZ m0 N0 Z ∧ ∀ k j : Int, 0 ≤ k → k < S.A 14 → 0 ≤ j → j < 4 → Z 121 (1960 + 4 * k + j) = S.A (200 + 4 * k + j)
def PMU (m0 : Int) (N0 : Int → Int) (S : Rul) (Z : Mem) : Prop := PMV m0 N0 S (S.A 14) S.steps Z
def GdU (m0 : Int) (S : Rul) : Prop := ((0 ≤ S.deep ∧ S.deep ≤ 3) ∧ (0 ≤ S.steps ∧ S.steps ≤ 30) ∧ (0 ≤ S.A 14 ∧ S.A 14 + S.deep ≤ 2 * S.steps) ∧ (0 ≤ m0 ∧ m0 ≤ 5)) ∧ (∀ i : Int, 0 ≤ i → i < S.deep → 0 ≤ S.O i ∧ S.O i < S.A 14) ∧ (∀ i j : Int, 0 ≤ i → i < S.deep → 0 ≤ j → j < S.deep → S.O i = S.O j → i = j) ∧ (0 < S.A 14 → S.A 200 ≠ 6) ∧ (∀ i : Int, 0 ≤ i → i < S.deep → S.A (200 + 4 * S.O i) ≠ 6) ∧ ∀ k : Int, 0 ≤ k → k < S.A 14 → S.A (200 + 4 * k) = 6 → S.A (200 + 4 * k + 3) < k
def WU (u : Int) (i : Int) : Prop := i = 38 ∨ i = 39 ∨ (u ≤ i ∧ i ≤ u + 4)
theorem RUL_c {u : Int} (h : u ∈ RUL) : u = 13 ∨ u = 30 ∨ u = 80 ∨ u = 97 ∨ u = 114 := by
  simpa [RUL] using h
theorem sepU {u : Int} (hu : u ∈ RUL) : ∀ j : Int, 0 ≤ j → j ≤ 4 → u + j ≠ 38 ∧ u + j ≠ 39 ∧ u + j ≠ 35 ∧ u + j ≠ 36 ∧ u + j ≠ 0 ∧ u + j ≠ 2 := fun j j0 j1 => by
  have := RUL_c hu
  omega
theorem sepR {r : Int} (hr : r ∈ RIV) : ∀ j : Int, 0 ≤ j → j ≤ 9 → r + j ≠ 38 ∧ r + j ≠ 39 ∧ r + j ≠ 35 ∧ r + j ≠ 36 ∧ r + j ≠ 0 ∧ r + j ≠ 2 := fun j j0 j1 => by
  have := RIV_c hr
  omega
theorem PCW.st {ln u r m0 : Int} {N0 : Int → Int} {S : Rul} (hu : u ∈ RUL) (hr : r ∈ RIV) : StC (PCW ln u r m0 N0 S) := fun X R h => by
  have := RUL_c hu
  have := RIV_c hr
  have e : ∀ i : Int, i ≠ 35 → ma X 35 R i = X i := fun i hi => ma_ne hi
  obtain ⟨h1, h2, ⟨h3, h4⟩, h5, h6⟩ := h
  refine ⟨by rw [e 38 (by decide), e u (by omega)]; exact h1, fun i a b => by rw [e 39 (by decide)]; exact h2 i a b, ⟨by rw [e r (by omega)]; exact h3, fun b b0 b1 => by rw [e (r + 4) (by omega)]; exact h4 b b0 b1⟩, fun k a b => ?_, fun k a b c => ?_⟩
  · have := h5 k a b
    unfold LNa at *
    rw [e (u + 1) (by omega), e (u + 2) (by omega), e (u + 3) (by omega)]
    exact this
  · have := h6 k a b c
    unfold LNb at *
    rw [e (u + 1) (by omega), e (u + 4) (by omega)]
    exact this
theorem PCU.st {u r m0 : Int} {N0 : Int → Int} {S : Rul} (hu : u ∈ RUL) (hr : r ∈ RIV) : StC (PCU u r m0 N0 S) := PCW.st hu hr
theorem PMV.st {m0 ln st : Int} {N0 : Int → Int} {S : Rul} : StM (PMV m0 N0 S ln st) := fun Z R hR h => by
  obtain ⟨⟨h1, h2, h3⟩, h4, ⟨h5, h6⟩, h7⟩ := h
  exact ⟨⟨by rw [ma_ne (by decide)]; exact h1, by rw [ma_same, hR 24 (by decide) (by decide) (by decide)]; exact h2, by rw [ma_same, hR 25 (by decide) (by decide) (by decide)]; exact h3⟩, fun i a b => by rw [ma_ne (by decide)]; exact h4 i a b, ⟨by rw [ma_ne (by decide)]; exact h5, fun b a c => by rw [ma_ne (by decide)]; exact h6 b a c⟩, fun k j a b c d => by rw [ma_ne (by decide)]; exact h7 k j a b c d⟩
/-- a line on its way: the class's code, bar, number; the reference's -/
def PCL (u r m0 : Int) (N0 : Int → Int) (S : Rul) (cd bb nn : Int) (X : Mem) : Prop := PCW (S.A 14 + 1) u r m0 N0 S X ∧ X (u + 1) (S.A 14) = cd ∧ X (u + 2) (S.A 14) = bb ∧ X (u + 3) (S.A 14) = nn
def PML (m0 : Int) (N0 : Int → Int) (S : Rul) (cm' bb nn : Int) (Z : Mem) : Prop := PMV m0 N0 S (S.A 14 + 1) (S.steps + 1) Z ∧ Z 121 (1960 + 4 * S.A 14) = cm' ∧ Z 121 (1960 + 4 * S.A 14 + 1) = bb ∧ Z 121 (1960 + 4 * S.A 14 + 2) = nn ∧ Z 121 (1960 + 4 * S.A 14 + 3) = 0
theorem PCL.st {u r m0 : Int} {N0 : Int → Int} {S : Rul} {cd bb nn : Int} (hu : u ∈ RUL) (hr : r ∈ RIV) : StC (PCL u r m0 N0 S cd bb nn) := fun X R h => by
  have := RUL_c hu
  exact ⟨PCW.st hu hr X R h.1, by rw [ma_ne (by omega)]; exact h.2.1, by rw [ma_ne (by omega)]; exact h.2.2.1, by rw [ma_ne (by omega)]; exact h.2.2.2⟩
theorem PML.st {m0 : Int} {N0 : Int → Int} {S : Rul} {a b c : Int} : StM (PML m0 N0 S a b c) := fun Z R hR h =>
  ⟨PMV.st Z R hR h.1, by rw [ma_ne (by decide)]; exact h.2.1, by rw [ma_ne (by decide)]; exact h.2.2.1, by rw [ma_ne (by decide)]; exact h.2.2.2.1, by rw [ma_ne (by decide)]; exact h.2.2.2.2⟩
/-- a store of the class in the line on its way -/
theorem PCW.ln {ln u r m0 : Int} {N0 : Int → Int} {S : Rul} {X : Mem} {j v : Int} (hu : u ∈ RUL) (hr : r ∈ RIV) (hur : u + 4 < r ∨ r + 9 < u) (h : PCW ln u r m0 N0 S X) (j0 : 1 ≤ j) (j1 : j ≤ 4) : PCW ln u r m0 N0 S (ms X (u + j) (S.A 14) v) := by
  have := RUL_c hu
  have := RIV_c hr
  have e : ∀ i : Int, i ≠ u + j → ms X (u + j) (S.A 14) v i = X i := fun i hi => ms_ne hi
  have ek : ∀ i k : Int, k < S.A 14 → ms X (u + j) (S.A 14) v i k = X i k := fun i k hk => by rw [ms_at, if_neg (by omega)]
  obtain ⟨h1, h2, ⟨h3, h4⟩, h5, h6⟩ := h
  refine ⟨by rw [e 38 (by omega), e u (by omega)]; exact h1, fun i a b => by rw [e 39 (by omega)]; exact h2 i a b, ⟨by rw [e r (by omega)]; exact h3, fun b b0 b1 => by rw [e (r + 4) (by omega)]; exact h4 b b0 b1⟩, fun k a b => ?_, fun k a b c => ?_⟩
  · have := h5 k a b
    unfold LNa at *
    rw [ek _ _ b, ek _ _ b, ek _ _ b]
    exact this
  · have := h6 k a b c
    unfold LNb at *
    rw [ek _ _ b, ek _ _ b]
    exact this
theorem PMV.ln {m0 ln st : Int} {N0 : Int → Int} {S : Rul} {Z : Mem} {q v : Int} (h : PMV m0 N0 S ln st Z) (g0 : 0 ≤ S.A 14) (hq : 1960 + 4 * S.A 14 ≤ q) : PMV m0 N0 S ln st (ms Z 121 q v) := by
  obtain ⟨⟨h1, h2, h3⟩, h4, ⟨h5, h6⟩, h7⟩ := h
  exact ⟨⟨by rw [ms_at, if_neg (by omega)]; exact h1, by rw [ms_ne (by decide)]; exact h2, by rw [ms_ne (by decide)]; exact h3⟩, fun i a b => by rw [ms_ne (by decide)]; exact h4 i a b, ⟨by rw [ms_at, if_neg (by omega)]; exact h5, fun b a c => by rw [ms_ne (by decide)]; exact h6 b a c⟩, fun k j a b c d => by rw [ms_at, if_neg (by omega)]; exact h7 k j a b c d⟩
theorem ms_frU {u i k v : Int} {X : Mem} (h : WU u i) (h35 : i ≠ 35) : FrC (WU u) X (ms X i k v) := ⟨fun j _ hj => ms_ne (fun e => hj (e ▸ h)), fun q _ => by rw [ms_ne (Ne.symm h35)]⟩
theorem FrW.q {Z : Mem} {k v : Int} (h : 1760 ≤ k) : FrW Z (ms Z 121 k v) := ⟨fun i _ b _ _ _ => ms_ne b, fun q _ => by rw [ms_ne (by decide)], fun q a => by rw [ms_at, if_neg (by omega)], fun q _ => by rw [ms_ne (by decide)]⟩
theorem FrW.s {Z : Mem} {k v : Int} (h : (18 ≤ k ∧ k ≤ 20) ∨ k = 24 ∨ k = 25) : FrW Z (ms Z 120 k v) := ⟨fun i a _ _ _ _ => ms_ne a, fun q a => by rw [ms_at, if_neg (by omega)], fun q _ => by rw [ms_ne (by decide)], fun q _ => by rw [ms_ne (by decide)]⟩
theorem FrW.o {Z : Mem} {k v : Int} : FrW Z (ms Z 129 k v) := ⟨fun i _ _ _ _ e => ms_ne e, fun q _ => by rw [ms_ne (by decide)], fun q _ => by rw [ms_ne (by decide)], fun q _ => by rw [ms_ne (by decide)]⟩
abbrev PRU (T : Int → Int) (n p u r m0 : Int) (N0 : Int → Int) (t : Tok) (JX JZ : Mem → Prop) (gX gZ : Mem → Option (Int × Mem)) : Prop := PARU (WU u) (fun _ => True) T n p (GdU m0) (PCU u r m0 N0) (PMU m0 N0) t JX JZ gX gZ
theorem TrC : StC (fun _ => True) := fun _ _ _ => trivial
/-- the line is done: a plain one, or one that opens -/
def addL (S : Rul) (op cm' bb nn : Int) : Rul := (fun q => if q = 14 then S.A 14 + 1 else if q = 200 + 4 * S.A 14 then cm' else if q = 200 + 4 * S.A 14 + 1 then bb else if q = 200 + 4 * S.A 14 + 2 then nn else if q = 200 + 4 * S.A 14 + 3 then 0 else S.A q, S.steps + 1, S.deep + op, fun i => if i = S.deep then S.A 14 else S.O i)
/-- how the two tell a line -/
def okL (op cd cm' bb bb' nn : Int) : Prop := cdm cd cm' ∧ (0 ≤ bb' ∧ bb' < 5) ∧ (cd = 1 ∨ cd = 2 ∨ cd = 9 ∨ cd = 10 → bb = bb') ∧ (0 ≤ nn ∧ nn ≤ 16) ∧ (cd = 6 ∨ cd = 3 ∨ cd = 4 → nn ≤ 9) ∧ (cd = 6 → 1 ≤ nn) ∧ (op = 0 ∨ op = 1) ∧ (op = 0 → ¬ (cd = 0 ∨ cd = 6 ∨ cd = 9 ∨ cd = 10 ∨ cd = 11)) ∧ cd ≠ 0
theorem addL_e {S : Rul} {op cm' bb nn : Int} (g0 : 0 ≤ S.A 14) {k j : Int} (k0 : 0 ≤ k) (k1 : k < S.A 14) (j0 : 0 ≤ j) (j1 : j < 4) : (addL S op cm' bb nn).A (200 + 4 * k + j) = S.A (200 + 4 * k + j) := by
  show (if 200 + 4 * k + j = 14 then S.A 14 + 1 else if 200 + 4 * k + j = 200 + 4 * S.A 14 then cm' else if 200 + 4 * k + j = 200 + 4 * S.A 14 + 1 then bb else if 200 + 4 * k + j = 200 + 4 * S.A 14 + 2 then nn else if 200 + 4 * k + j = 200 + 4 * S.A 14 + 3 then 0 else S.A (200 + 4 * k + j)) = _
  rw [if_neg (by omega), if_neg (by omega), if_neg (by omega), if_neg (by omega), if_neg (by omega)]
theorem addL_n {S : Rul} {op cm' bb nn : Int} (g0 : 0 ≤ S.A 14) : (addL S op cm' bb nn).A (200 + 4 * S.A 14) = cm' ∧ (addL S op cm' bb nn).A (200 + 4 * S.A 14 + 1) = bb ∧ (addL S op cm' bb nn).A (200 + 4 * S.A 14 + 2) = nn ∧ (addL S op cm' bb nn).A (200 + 4 * S.A 14 + 3) = 0 := by
  refine ⟨?_, ?_, ?_, ?_⟩
  · show (if _ then _ else _) = _
    rw [if_neg (by omega), if_pos rfl]
  · show (if _ then _ else _) = _
    rw [if_neg (by omega), if_neg (by omega), if_pos rfl]
  · show (if _ then _ else _) = _
    rw [if_neg (by omega), if_neg (by omega), if_neg (by omega), if_pos rfl]
  · show (if _ then _ else _) = _
    rw [if_neg (by omega), if_neg (by omega), if_neg (by omega), if_neg (by omega), if_pos rfl]
theorem addL_14 {S : Rul} {op cm' bb nn : Int} : (addL S op cm' bb nn).A 14 = S.A 14 + 1 := rfl
theorem addL_G {S : Rul} {m0 op cd cm' bb bb' nn : Int} (hs : GdU m0 S) (hk : okL op cd cm' bb bb' nn) (h30 : S.steps < 30) (hop : op = 1 → S.deep < 3) : GdU m0 (addL S op cm' bb' nn) := by
  have hc6 : cm' ≠ 6 := by
    have h1 := hk.1
    have h0 := hk.2.2.2.2.2.2.2.2
    clear hop hs
    unfold cdm at h1
    omega
  obtain ⟨⟨g1, g2, g3, g4⟩, g5, g6, g7, g8, g9⟩ := hs
  have n1 := (addL_n (S := S) (op := op) (cm' := cm') (bb := bb') (nn := nn) g3.1).1
  have e0 : ∀ k : Int, 0 ≤ k → k < S.A 14 → (addL S op cm' bb' nn).A (200 + 4 * k) = S.A (200 + 4 * k) := fun k a b => by
    have q0 := addL_e (S := S) (op := op) (cm' := cm') (bb := bb') (nn := nn) g3.1 (k := k) (j := 0) a b (by decide) (by decide)
    rw [Int.add_zero] at q0
    exact q0
  have ho := hk.2.2.2.2.2.2.1
  have hO : ∀ i : Int, (addL S op cm' bb' nn).O i = if i = S.deep then S.A 14 else S.O i := fun i => rfl
  have hd : (addL S op cm' bb' nn).deep = S.deep + op := rfl
  have hst : (addL S op cm' bb' nn).steps = S.steps + 1 := rfl
  unfold GdU
  rw [hd, hst, addL_14]
  refine ⟨⟨by omega, by omega, by omega, g4⟩, fun i i0 i1 => ?_, fun i j i0 i1 j0 j1 e => ?_, fun _ => ?_, fun i i0 i1 => ?_, fun k k0 k1 => ?_⟩
  · rw [hO]
    by_cases g : i = S.deep
    · rw [if_pos g]; omega
    · rw [if_neg g]
      have := g5 i i0 (by omega)
      omega
  · rw [hO, hO] at e
    by_cases gi : i = S.deep
    · by_cases gj : j = S.deep
      · rw [gi, gj]
      · rw [if_pos gi, if_neg gj] at e
        have := g5 j j0 (by omega)
        omega
    · by_cases gj : j = S.deep
      · rw [if_neg gi, if_pos gj] at e
        have := g5 i i0 (by omega)
        omega
      · rw [if_neg gi, if_neg gj] at e
        exact g6 i j i0 (by omega) j0 (by omega) e
  · have h1 := hk.1
    have h0 := hk.2.2.2.2.2.2.2.2
    have eA : (addL S op cm' bb' nn).A 200 = if (200 : Int) = 14 then S.A 14 + 1 else if (200 : Int) = 200 + 4 * S.A 14 then cm' else if (200 : Int) = 200 + 4 * S.A 14 + 1 then bb' else if (200 : Int) = 200 + 4 * S.A 14 + 2 then nn else if (200 : Int) = 200 + 4 * S.A 14 + 3 then 0 else S.A 200 := rfl
    rw [eA, if_neg (by decide)]
    by_cases g : S.A 14 = 0
    · rw [if_pos (by omega)]
      clear hO ho g1 g2 g3 g4 g5 g6 g7 g8 g9 n1 e0 hd hst
      unfold cdm at h1
      omega
    · rw [if_neg (by omega), if_neg (by omega), if_neg (by omega), if_neg (by omega)]
      exact g7 (by omega)
  · rw [hO]
    by_cases g : i = S.deep
    · rw [if_pos g, n1]
      exact hc6
    · have hi := g5 i i0 (by omega)
      rw [if_neg g, e0 (S.O i) hi.1 hi.2]
      exact g8 i i0 (by omega)
  · by_cases g : k = S.A 14
    · rw [g, n1]
      exact fun h => absurd h hc6
    · have hk2 : k < S.A 14 := by omega
      rw [e0 k k0 hk2, addL_e g3.1 k0 hk2 (by decide) (by decide)]
      exact g9 k k0 hk2
theorem hYs {u r : Int} {X Y : Mem} (hu : u ∈ RUL) (hr : r ∈ RIV) (hur : u + 4 < r ∨ r + 9 < u) (hY : ∀ i : Int, i ≠ u → i ≠ 38 → i ≠ 39 → Y i = X i) : (Y (u + 1) = X (u + 1) ∧ Y (u + 2) = X (u + 2) ∧ Y (u + 3) = X (u + 3) ∧ Y (u + 4) = X (u + 4)) ∧ Y r = X r ∧ Y (r + 4) = X (r + 4) := by
  have s1 := (sepU hu) 1 (by decide) (by decide)
  have s2 := (sepU hu) 2 (by decide) (by decide)
  have s3 := (sepU hu) 3 (by decide) (by decide)
  have s4 := (sepU hu) 4 (by decide) (by decide)
  have r0 := (sepR hr) 0 (by decide) (by decide)
  have r4 := (sepR hr) 4 (by decide) (by decide)
  rw [Int.add_zero] at r0
  have q1 : u + 1 ≠ u := by clear s1 s2 s3 s4 r0 r4; omega
  have q2 : u + 2 ≠ u := by clear s1 s2 s3 s4 r0 r4 q1; omega
  have q3 : u + 3 ≠ u := by clear s1 s2 s3 s4 r0 r4 q1 q2; omega
  have q4 : u + 4 ≠ u := by clear s1 s2 s3 s4 r0 r4 q1 q2 q3; omega
  have q5 : r ≠ u := by clear s1 s2 s3 s4 r0 r4 q1 q2 q3 q4; omega
  have q6 : r + 4 ≠ u := by clear s1 s2 s3 s4 r0 r4 q1 q2 q3 q4 q5; omega
  exact ⟨⟨hY _ q1 s1.1 s1.2.1, hY _ q2 s2.1 s2.2.1, hY _ q3 s3.1 s3.2.1, hY _ q4 s4.1 s4.2.1⟩, hY _ q5 r0.1 r0.2.1, hY _ q6 r4.1 r4.2.1⟩
theorem add_old {S : Rul} {op cm' bb nn k : Int} {X : Mem} {u : Int} (g0 : 0 ≤ S.A 14) (a : 0 ≤ k) (b : k < S.A 14) (h : LNa X u S.A k) : LNa X u (addL S op cm' bb nn).A k := by
  have q0 := addL_e (S := S) (op := op) (cm' := cm') (bb := bb) (nn := nn) g0 (k := k) (j := 0) a b (by decide) (by decide)
  rw [Int.add_zero] at q0
  unfold LNa at *
  rw [q0, addL_e g0 a b (by decide) (by decide), addL_e g0 a b (by decide) (by decide)]
  exact h
/-- the class's memory when a line is done -/
theorem PCL.fin {u r m0 : Int} {N0 : Int → Int} {S : Rul} {op cd cm' bb bb' nn : Int} {X : Mem} (hu : u ∈ RUL) (hr : r ∈ RIV) (hur : u + 4 < r ∨ r + 9 < u) (g0 : 0 ≤ S.A 14) (gd : 0 ≤ S.deep) (hk : okL op cd cm' bb bb' nn) (h : PCL u r m0 N0 S cd bb nn X) : ∀ Y : Mem, (∀ i : Int, i ≠ u → i ≠ 38 → i ≠ 39 → Y i = X i) → (Y 38 2 = u ∧ Y 38 3 = r ∧ Y 38 4 = S.deep + op) → (Y u 0 = S.A 14 + 1 ∧ Y u 1 = S.steps + 1) → (∀ i : Int, 0 ≤ i → i < S.deep + op → Y 39 i = if i = S.deep then S.A 14 else S.O i) → PCU u r m0 N0 (addL S op cm' bb' nn) Y := by
  intro Y hY h38 hu0 h39
  obtain ⟨⟨e1, e2, e3, e4⟩, er, er4⟩ := hYs hu hr hur hY
  clear hY hur
  obtain ⟨⟨p1, p2, ⟨p3, p4⟩, p5, p6⟩, l1, l2, l3⟩ := h
  obtain ⟨n1, n2, n3, n4⟩ := addL_n (S := S) (op := op) (cm' := cm') (bb := bb') (nn := nn) g0
  refine ⟨⟨h38.1, h38.2.1, h38.2.2, by rw [addL_14]; exact hu0.1, hu0.2⟩, h39, ⟨by rw [er]; exact p3, fun b b0 b1 => by rw [er4]; exact p4 b b0 b1⟩, fun k a b => ?_, fun k a b c => ?_⟩
  · rw [addL_14] at b
    by_cases gk : k = S.A 14
    · rw [gk]
      unfold LNa
      rw [e1, e2, e3, n1, n2, n3, l1, l2, l3]
      exact ⟨hk.1, hk.2.1, hk.2.2.1, hk.2.2.2.1, fun _ => rfl, hk.2.2.2.2.1, hk.2.2.2.2.2.1⟩
    · have hkl : k < S.A 14 := by
        clear p1 p2 p3 p4 p5 p6 l1 l2 l3 h38 hu0 h39 n1 n2 n3 n4
        omega
      have := p5 k a hkl
      refine add_old g0 a hkl ?_
      unfold LNa at *
      rw [e1, e2, e3]
      exact this
  · rw [addL_14] at b
    unfold LNb
    rw [e1, e4, addL_14]
    intro hcd
    by_cases gk : k = S.A 14
    · rw [gk, l1] at hcd
      by_cases go : op = 0
      · exact absurd hcd (hk.2.2.2.2.2.2.2.1 go)
      · have ho : op = 1 := hk.2.2.2.2.2.2.1.resolve_left go
        refine absurd ⟨S.deep, gd, ?_, ?_⟩ c
        · show S.deep < S.deep + op
          rw [ho]
          exact Int.lt_add_one_of_le (Int.le_refl _)
        · show (if S.deep = S.deep then S.A 14 else S.O S.deep) = k
          rw [if_pos rfl, gk]
    · have hkl : k < S.A 14 := by
        clear p1 p2 p3 p4 p5 p6 l1 l2 l3 h38 hu0 h39 n1 n2 n3 n4 hcd
        omega
      have hno : ¬ isOp S k := fun ⟨i, i0, i1, i2⟩ => c ⟨i, i0, by
        show i < S.deep + op
        have ho := hk.2.2.2.2.2.2.1
        clear p1 p2 p3 p4 p5 p6 l1 l2 l3 h38 hu0 h39 n1 n2 n3 n4 hcd
        omega, by
        show (if i = S.deep then S.A 14 else S.O i) = k
        rw [if_neg (Int.ne_of_lt i1)]
        exact i2⟩
      have := p6 k a hkl hno hcd
      rw [addL_e g0 a hkl (by decide) (by decide)]
      exact ⟨this.1, this.2.1, Int.lt_add_one_of_le (Int.le_of_lt this.2.2)⟩
/-- the reference's memory when a line is done -/
theorem PML.fin {m0 : Int} {N0 : Int → Int} {S : Rul} {op cm' bb' nn : Int} {Z : Mem} (hs : GdU m0 S) (ho : op = 0 ∨ op = 1) (h : PML m0 N0 S cm' bb' nn Z) : ∀ Y : Mem, (∀ i : Int, i ≠ 120 → i ≠ 129 → Y i = Z i) → (Y 120 24 = S.deep + op ∧ Y 120 25 = S.steps + 1) → (∀ i : Int, 0 ≤ i → i < S.deep + op → Y 129 i = if i = S.deep then S.A 14 else S.O i) → PMU m0 N0 (addL S op cm' bb' nn) Y := by
  intro Y hY h1 h9
  obtain ⟨⟨⟨p1, p2, p3⟩, p4, ⟨p5, p6⟩, p7⟩, l1, l2, l3, l4⟩ := h
  have g0 : 0 ≤ S.A 14 := hs.1.2.2.1.1
  obtain ⟨n1, n2, n3, n4⟩ := addL_n (S := S) (op := op) (cm' := cm') (bb := bb') (nn := nn) g0
  have e1 : Y 121 = Z 121 := hY 121 (by decide) (by decide)
  refine ⟨⟨by rw [e1, addL_14]; exact p1, h1.1, h1.2⟩, h9, ⟨by rw [e1]; exact p5, fun b b0 b1 => by rw [hY 122 (by decide) (by decide)]; exact p6 b b0 b1⟩, fun k j a b c d => ?_⟩
  rw [addL_14] at b
  rw [e1]
  by_cases gk : k = S.A 14
  · rw [gk]
    rcases (show j = 0 ∨ j = 1 ∨ j = 2 ∨ j = 3 by omega) with rfl | rfl | rfl | rfl
    · rw [Int.add_zero, Int.add_zero, n1, l1]
    · rw [n2, l2]
    · rw [n3, l3]
    · rw [n4, l4]
  · rw [addL_e g0 a (by omega) c d]
    exact p7 k j a (by omega) c d
