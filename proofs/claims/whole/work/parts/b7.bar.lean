/-! rivers: names and bars -/
/-- the first of k names from i on that is c -/
def fnd (Nm : Int → Int) (c : Int) : Nat → Int → Int
  | 0, _ => -1
  | k + 1, i => if Nm i = c then i else fnd Nm c k (i + 1)
theorem fnd_r {Nm : Int → Int} {c : Int} : ∀ (k : Nat) (i : Int), fnd Nm c k i = -1 ∨ (i ≤ fnd Nm c k i ∧ fnd Nm c k i < i + k)
  | 0, i => Or.inl rfl
  | k + 1, i => by
    unfold fnd
    split
    · exact Or.inr ⟨Int.le_refl _, by omega⟩
    · rcases fnd_r (Nm := Nm) (c := c) k (i + 1) with h | h
      · exact Or.inl h
      · exact Or.inr ⟨by omega, by omega⟩
theorem NM_iff {a b : Int} {L : List Int} (h : NM a b) (hL : ∀ x ∈ L, 97 ≤ x ∧ x ≤ 122) : (a = c5 L ↔ b = c8 L) := by
  obtain ⟨L', -, -, l3, rfl, rfl⟩ := h
  exact ⟨fun e => by rw [c5_inj L' L l3 hL e], fun e => by rw [c8_inj L' L l3 hL e]⟩
theorem NM_r {a b : Int} (h : NM a b) : (0 ≤ a ∧ a ≤ 1099511627776) ∧ (0 ≤ b ∧ b ≤ 9223372036854775807) := by
  obtain ⟨L, l1, l2, l3, rfl, rfl⟩ := h
  have h1 := c5_r L l3
  have h2 := c8_r2 L l3
  have h3 : (32 : Int) ^ L.length ≤ 1099511627776 ∧ (256 : Int) ^ L.length ≤ 18446744073709551616 := by
    have : ∀ m : Fin 9, (32 : Int) ^ m.val ≤ 1099511627776 ∧ (256 : Int) ^ m.val ≤ 18446744073709551616 := by decide +kernel
    exact this ⟨L.length, by omega⟩
  omega
theorem barNamed_eq {X : Mem} {r : Int} {A Nm : Int → Int} {L : List Int} (h2 : X r 2 = A 2) (hA : 0 ≤ A 2 ∧ A 2 ≤ 5) (hN : ∀ b : Int, 0 ≤ b → b < A 2 → NM (X (r + 4) b) (Nm b)) (hL : ∀ x ∈ L, 97 ≤ x ∧ x ≤ 122) (hl : L.length ≤ 8) : ∀ (K : Nat) (i : Int), 0 ≤ i → i ≤ A 2 → (A 2 - i).toNat < K → L_X2_barNamed_2 K r (c5 L) i X = some (fnd Nm (c8 L) (A 2 - i).toNat i, X) := by
  intro K
  induction K with
  | zero => intro i _ _ h; omega
  | succ K ih =>
    intro i i0 i1 hK
    rw [L_X2_barNamed_2, h2, c2_ok (by omega) (by omega) (by omega) (by omega)]
    by_cases g : A 2 ≤ i
    · rw [if_pos g, show (A 2 - i).toNat = 0 by omega]
      rfl
    · have hn := hN i i0 (by omega)
      have hr := (NM_r hn).1
      have h1 := c5_r L hL
      have h3 : (32 : Int) ^ L.length ≤ 1099511627776 := by
        have : ∀ m : Fin 9, (32 : Int) ^ m.val ≤ 1099511627776 := by decide +kernel
        exact this ⟨L.length, by omega⟩
      have hi := NM_iff hn hL
      rw [if_neg g, ax_ok (by omega) (by omega), d2_ok (by omega) (by omega) (by omega) (by omega), show (A 2 - i).toNat = (A 2 - (i + 1)).toNat + 1 by omega, fnd]
      by_cases ge : X (r + 4) i = c5 L
      · rw [if_neg (by simpa using ge), if_pos (hi.mp ge)]
      · rw [if_pos ge, if_neg (fun e => ge (hi.mpr e))]
        exact ih (i + 1) (by omega) (by omega) (by omega)
theorem nameHere_eq {Z : Mem} {T : Int → Int} {n : Int} {t : Tok} (hT : TXT T n) (hK : TKt T n t) (hM : MSt Z T n t) (hk : t.k = 1) (h8 : t.e - t.b ≤ 8) : f_X12_nameHere Z = some (c8 (LT T t.b (t.e - t.b).toNat), Z) := by
  have hr := hK.r
  have h := nameHere_7 hT hK hM hk h8 KF 0 (by omega) (by rw [KF_eq]; have := hT.1; omega)
  have e : t.b + ((0 : Nat) : Int) = t.b := by omega
  rw [e] at h
  unfold f_X12_nameHere
  rw [bd_eq, hM.2.2.2.1]
  exact h
theorem findHere_eq {Z : Mem} {T : Int → Int} {n : Int} {t : Tok} {Nm : Int → Int} {m o : Int} (hT : TXT T n) (hK : TKt T n t) (hM : MSt Z T n t) (hk : t.k = 1) (h8 : t.e - t.b ≤ 8) (hm : 0 ≤ m ∧ m ≤ 5) (ho : 0 ≤ o ∧ o ≤ 20) (hN : ∀ b : Int, 0 ≤ b → b < m → Z 122 (o + b) = Nm b) (hr : ∀ b : Int, 0 ≤ b → b < m → 0 ≤ Nm b ∧ Nm b ≤ 9223372036854775807) : ∀ (K : Nat) (i : Int), 0 ≤ i → i ≤ m → (m - i).toNat < K → L_X12_findHere_2 K o m i Z = some (fnd Nm (c8 (LT T t.b (t.e - t.b).toNat)) (m - i).toNat i, Z) := by
  have hnh := nameHere_eq hT hK hM hk h8
  have hrr := hK.r
  have hc : 0 ≤ c8 (LT T t.b (t.e - t.b).toNat) ∧ c8 (LT T t.b (t.e - t.b).toNat) ≤ 9223372036854775807 := by
    have h2 := c8_r2 _ (LT_low hK hk)
    have h3 : (256 : Int) ^ (LT T t.b (t.e - t.b).toNat).length ≤ 18446744073709551616 := by
      have : ∀ m : Fin 9, (256 : Int) ^ m.val ≤ 18446744073709551616 := by decide +kernel
      exact this ⟨(LT T t.b (t.e - t.b).toNat).length, by rw [LT_len]; omega⟩
    omega
  intro K
  induction K with
  | zero => intro i _ _ h; omega
  | succ K ih =>
    intro i i0 i1 hK
    rw [L_X12_findHere_2, c2_ok (by omega) (by omega) (by omega) (by omega)]
    by_cases g : m ≤ i
    · rw [if_pos g, show (m - i).toNat = 0 by omega]
      rfl
    · have hn := hr i i0 (by omega)
      rw [if_neg g, ax_ok (by omega) (by omega), hnh, cl_some, hN i i0 (by omega), d2_ok (by omega) (by omega) (by omega) (by omega), show (m - i).toNat = (m - (i + 1)).toNat + 1 by omega, fnd]
      by_cases ge : Nm i = c8 (LT T t.b (t.e - t.b).toNat)
      · rw [if_neg (by simpa using ge), if_pos ge]
      · rw [if_pos ge, if_neg ge]
        exact ih (i + 1) (by omega) (by omega) (by omega)
/-- a bar on its way: its name, its first k numbers -/
def PCB (r : Int) (S : Riv) (nm : Int) (a : Int → Int) (k : Int) (X : Mem) : Prop := PCR r S X ∧ X (r + 9) (S.A 2) = -1 ∧ NM (X (r + 4) (S.A 2)) nm ∧ ∀ j : Int, 0 ≤ j → j < k → X (r + 5 + j) (S.A 2) = a j
def PMB (S : Riv) (nm : Int) (a : Int → Int) (k : Int) (Z : Mem) : Prop := (Z 120 20 = S.rows ∧ Z 120 19 = sbits S) ∧ (∀ q : Int, 0 ≤ q → q < 200 → q < 28 + 4 * S.A 2 ∨ 28 + 4 * S.A 2 + 4 ≤ q → Z 121 (1760 + q) = S.A q) ∧ (∀ b : Int, 0 ≤ b → b < S.A 2 → Z 122 (20 + b) = S.Nm b) ∧ Z 122 (20 + S.A 2) = nm ∧ ∀ j : Int, 0 ≤ j → j < k → Z 121 (1788 + 4 * S.A 2 + j) = a j
theorem PCB.st {r : Int} {S : Riv} {nm k : Int} {a : Int → Int} (hk : k ≤ 4) (hr : r ∈ RIV) : StC (PCB r S nm a k) := fun X R h => by
  have hrr := RIV_c hr
  obtain ⟨h1, h2, h3, h4⟩ := h
  refine ⟨PCR.st hr X R h1, by rw [ma_ne (by omega)]; exact h2, by rw [ma_ne (by omega)]; exact h3, fun j j0 j1 => ?_⟩
  rw [ma_ne (by omega)]
  exact h4 j j0 j1
theorem PMB.st {S : Riv} {nm k : Int} {a : Int → Int} : StM (PMB S nm a k) := fun Z R hR h => by
  obtain ⟨⟨h1, h1'⟩, h2, h3, h4, h5⟩ := h
  exact ⟨⟨by rw [ma_same, hR 20 (by decide) (by decide) (by decide)]; exact h1, by rw [ma_same, hR 19 (by decide) (by decide) (by decide)]; exact h1'⟩, fun q a b c => by rw [ma_ne (by decide)]; exact h2 q a b c, fun b a c => by rw [ma_ne (by decide)]; exact h3 b a c, by rw [ma_ne (by decide)]; exact h4, fun j a b => by rw [ma_ne (by decide)]; exact h5 j a b⟩
/-- a bar's row, where RV does not look yet -/
theorem RV.bar {X : Mem} {r : Int} {A : Int → Int} {f k v : Int} (h : RV X r A) (f0 : 4 ≤ f) (f1 : f ≤ 9) (hk : A 2 ≤ k) (hv : 0 ≤ v ∧ v ≤ 16 ∨ f = 4 ∨ f = 9) : RV (ms X (r + f) k v) r A := by
  have ne : ∀ i : Int, i ≠ r + f → ms X (r + f) k v i = X i := fun i hi => ms_ne hi
  have nk : ∀ i b : Int, b < A 2 → ms X (r + f) k v i b = X i b := fun i b hb => by rw [ms_at, if_neg (by omega)]
  obtain ⟨h1, h2, h3, h4, h5, h6, h7⟩ := h
  refine ⟨by rw [ne r (by omega)]; exact h1, fun c c0 c1 => by rw [ne _ (by omega)]; exact h2 c c0 c1, fun c c0 c1 => by rw [ne _ (by omega)]; exact h3 c c0 c1, fun d d0 d1 => by rw [ne _ (by omega)]; exact h4 d d0 d1, fun b b0 b1 => by rw [nk _ b b1, nk _ b b1, nk _ b b1, nk _ b b1]; exact h5 b b0 b1, fun b b0 b1 => by rw [nk _ b b1]; exact h6 b b0 b1, fun b b0 b1 => ?_⟩
  have s : ∀ g : Int, 5 ≤ g → g ≤ 8 → 0 ≤ X (r + g) b ∧ X (r + g) b ≤ 16 → 0 ≤ ms X (r + f) k v (r + g) b ∧ ms X (r + f) k v (r + g) b ≤ 16 := fun g g0 g1 hx => by
    rw [ms_at]
    split
    · omega
    · exact hx
  obtain ⟨a1, a2, a3, a4⟩ := h7 b b0 b1
  exact ⟨s 5 (by decide) (by decide) a1, s 6 (by decide) (by decide) a2, s 7 (by decide) (by decide) a3, s 8 (by decide) (by decide) a4⟩
theorem PCR.bar {r : Int} {S : Riv} {X : Mem} {f v : Int} (hr : r ∈ RIV) (h : PCR r S X) (f0 : 4 ≤ f) (f1 : f ≤ 9) (hv : 0 ≤ v ∧ v ≤ 16 ∨ f = 4 ∨ f = 9) : PCR r S (ms X (r + f) (S.A 2) v) := by
  have := RIV_c hr
  obtain ⟨h1, h2, h3⟩ := h
  exact ⟨by rw [ms_ne (by omega)]; exact h1, h2.bar f0 f1 (Int.le_refl _) hv, fun b b0 b1 => by rw [ms_at, if_neg (by omega)]; exact h3 b b0 b1⟩
noncomputable def bY (a : Nat) (lo hi f v : Int) (K : Mem → Option (Int × Mem)) (X : Mem) : Option (Int × Mem) := cl (f_X8_takePair a lo hi X) fun r X3 => c1 r <| if ¬ r = 0 then cm RIV (X3 37 1) <| ax 5 v <| bd (ms X3 ((X3 37 1) + f) v (X3 35 8)) fun X5 => K X5 else some (0, X3)
theorem bar_step {T : Int → Int} {n p r : Int} {t : Tok} {S : Riv} {a : Int → Int} {w j : Nat} {nm lo hi : Int} {K : Mem → Option (Int × Mem)} {kf : Nat} (hj : j ≤ 3) (hlo : lo = if j = 0 then 1 else 0) (hhi : hi = if j = 0 then 9 else 16) (hw : W33 w (3 + j)) (hr : r ∈ RIV) (hn : n ≤ 900) (hT : TXT T n) (hK : TKt T n t) (hs : GdR S) (h5 : S.A 2 < 5)
    (h : ∀ (t2 : Tok) (v : Int), TKt T n t2 → t.e ≤ t2.b → lo ≤ v → v ≤ hi → PRV T n p r t2 (PCB r S nm (up a j v) (j + 1)) (PMB S nm (up a j v) (j + 1)) K (fun Z => cl (L_X12_aBar_84 kf (1788 + 4 * S.A 2) ((j : Int) + 1) Z) fun r X => B_X12_riverPart_230 r X)) : PRV T n p r t (PCB r S nm a j) (PMB S nm a j) (bY w lo hi (5 + j) (S.A 2) K) (fun Z => cl (L_X12_aBar_84 (kf + 1) (1788 + 4 * S.A 2) j Z) fun r X => B_X12_riverPart_230 r X) := by
  have hrr := RIV_c hr
  have hA := hs.1.2.1
  have hb : 0 ≤ lo ∧ lo ≤ 1 ∧ 9 ≤ hi ∧ hi ≤ 16 := by
    rw [hlo, hhi]
    split <;> decide
  have e3 : ((3 + j : Nat) : Int) = 3 + (j : Int) := by omega
  have eL : ∀ Z : Mem, L_X12_aBar_84 (kf + 1) (1788 + 4 * S.A 2) j Z = cl (f_X12_wantWord 33 (3 + (j : Int)) Z) fun r15 X16 => c1 r15 <| if r15 = 0 then some (0, X16) else cl (f_X12_number (1788 + 4 * S.A 2 + j) lo hi X16) fun r17 X18 => c1 r17 <| if ¬ r17 = 0 then L_X12_aBar_84 kf (1788 + 4 * S.A 2) ((j : Int) + 1) X18 else some (0, X18) := fun Z => by
    rw [L_X12_aBar_84, c2_ok (by omega) (by omega) (by decide) (by decide), if_neg (by omega)]
    congr 1
    funext r15 X16
    congr 1
    by_cases gr : r15 = 0
    · rw [if_pos gr, if_pos gr]
    rw [if_neg gr, if_neg gr]
    by_cases g : j = 0
    · subst g
      rw [hlo, hhi, if_pos rfl, if_pos rfl, c1_okk (by decide) (by decide), if_neg (by decide), B_X12_aBar_114, c1_okk (by decide) (by decide), if_neg (by decide), B_X12_aBar_125]
    · rw [hlo, hhi, if_neg g, if_neg g, c1_okk (by omega) (by omega), if_pos (by omega), B_X12_aBar_114, c1_okk (by omega) (by omega), if_pos (by omega), B_X12_aBar_125]
  refine PART.pairW (kX := fun X3 => cm RIV (X3 37 1) <| ax 5 (S.A 2) <| bd (ms X3 ((X3 37 1) + (5 + j)) (S.A 2) (X3 35 8)) fun X5 => K X5) (kZ := fun Z => cl (L_X12_aBar_84 kf (1788 + 4 * S.A 2) ((j : Int) + 1) Z) fun r X => B_X12_riverPart_230 r X) (JZ1 := PMB S nm (up a j (nx T n t.e).v) (j + 1)) (sl := 1788 + 4 * S.A 2 + j) (lo := lo) (hi := hi) hw hn hT hK (inI_s (by omega) (by omega)) (inI_s (by omega) (by omega)) (by omega) (by omega) (PCB.st (by omega) hr) PMB.st PMB.st (fun X h => h.1.rb) (RB.st hr) (fun v Z hJ hv => ?_) (fun h1 h2 h3 h4 h5' => ?_) (fun X Y r0 _ h0 e => ?_) (fun Z Y _ e => ?_) (fun Z Y Y' r0 _ hJ h0 e1 e2 => ?_)
  · obtain ⟨q1, q2, q3, q4, q5⟩ := hJ
    refine ⟨by rw [ms_ne (by decide)]; exact q1, fun q a b c => by rw [ms_at, if_neg (by omega)]; exact q2 q a b c, fun b a c => by rw [ms_ne (by decide)]; exact q3 b a c, by rw [ms_ne (by decide)]; exact q4, fun i i0 i1 => ?_⟩
    rw [ms_at, up_at, ← hv]
    by_cases g : i = j
    · rw [if_pos ⟨rfl, by omega⟩, if_pos g]
    · rw [if_neg (by omega), if_neg g]
      exact q5 i i0 (by omega)
  · refine PART.mapX (h _ _ h4 h5' h2 h3) (fun X hC hJ => ⟨ms X (r + (5 + j)) (S.A 2) (nx T n t.e).v, ?_, ms_cst hC (by omega) (by omega), ?_, ms_frC (Or.inr (by omega)) (by omega)⟩)
    · show (cm RIV (X 37 1) <| ax 5 (S.A 2) <| bd (ms X ((X 37 1) + (5 + j)) (S.A 2) (X 35 8)) fun X5 => K X5) = _
      rw [hJ.1.1.1.1, hJ.2, cm_ok hr, ax_ok (by omega) (by omega), bd_eq]
    · obtain ⟨⟨q1, q2, q3, q4⟩, -⟩ := hJ
      refine ⟨q1.bar hr (by omega) (by omega) (Or.inl (by omega)), by rw [ms_ne (by omega)]; exact q2, by rw [ms_ne (by omega)]; exact q3, fun i i0 i1 => ?_⟩
      rw [ms_at, up_at]
      by_cases g : i = j
      · rw [if_pos ⟨by omega, rfl⟩, if_pos g]
      · rw [if_neg (by omega), if_neg g]
        exact q4 i i0 (by omega)
  · unfold bY
    rw [e, cl_some]
    rcases h0 with rfl | rfl
    · rw [c1_0, n00, i00]
    · rw [c1_1, n10, i10]
  · rw [e3] at e
    show (cl (L_X12_aBar_84 (kf + 1) (1788 + 4 * S.A 2) j Z) fun r X => B_X12_riverPart_230 r X) = _
    rw [eL, e, cl_some, c1_0, i00, cl_some, B230_0]
  · rw [e3] at e1
    show (cl (L_X12_aBar_84 (kf + 1) (1788 + 4 * S.A 2) j Z) fun r X => B_X12_riverPart_230 r X) = _
    rw [eL, e1, cl_some, c1_1, i10, e2, cl_some]
    rcases h0 with rfl | rfl
    · rw [c1_0, n00, i00, cl_some, B230_0]
    · rw [c1_1, n10, i10]
/-- the bar is there -/
noncomputable def barA (A a : Int → Int) (q : Int) : Int := if q = 2 then A 2 + 1 else if 28 + 4 * A 2 ≤ q ∧ q < 28 + 4 * A 2 + 4 then a (q - 28 - 4 * A 2) else A q
theorem bar_end {r : Int} {S : Riv} {nm : Int} {a : Int → Int} (hr : r ∈ RIV) (hs : GdR S) (h5 : S.A 2 < 5) (hnm : ∃ c : Int, NM c nm) (ha : (1 ≤ a 0 ∧ a 0 ≤ 9) ∧ (0 ≤ a 1 ∧ a 1 ≤ 16) ∧ (0 ≤ a 2 ∧ a 2 ≤ 16) ∧ (0 ≤ a 3 ∧ a 3 ≤ 16)) : GdR ((S.wA (barA S.A a)).wN (up S.Nm (S.A 2) nm)) ∧ (∀ X : Mem, PCB r S nm a 4 X → PCR r ((S.wA (barA S.A a)).wN (up S.Nm (S.A 2) nm)) (ms X r 2 (S.A 2 + 1))) ∧ ∀ Z : Mem, PMB S nm a 4 Z → PMR ((S.wA (barA S.A a)).wN (up S.Nm (S.A 2) nm)) (ms Z 121 1762 (S.A 2 + 1)) := by
  have hrr := RIV_c hr
  have hA := hs.1.2.1
  have e : ∀ q : Int, q ≠ 2 → q < 28 ∨ 48 ≤ q → barA S.A a q = S.A q := fun q q1 q2 => by
    unfold barA
    rw [if_neg q1, if_neg (by omega)]
  have e2 : barA S.A a 2 = S.A 2 + 1 := if_pos rfl
  have eo : ∀ b j : Int, 0 ≤ b → b < S.A 2 → 0 ≤ j → j < 4 → barA S.A a (28 + 4 * b + j) = S.A (28 + 4 * b + j) := fun b j b0 b1 j0 j1 => by
    unfold barA
    rw [if_neg (by omega), if_neg (by omega)]
  have en : ∀ j : Int, 0 ≤ j → j < 4 → barA S.A a (28 + 4 * S.A 2 + j) = a j := fun j j0 j1 => by
    unfold barA
    rw [if_neg (by omega), if_pos (by omega), show 28 + 4 * S.A 2 + j - 28 - 4 * S.A 2 = j by omega]
  have haj : ∀ j : Int, 0 ≤ j → j < 4 → 0 ≤ a j ∧ a j ≤ 16 := fun j j0 j1 => by
    rcases (show j = 0 ∨ j = 1 ∨ j = 2 ∨ j = 3 by omega) with rfl | rfl | rfl | rfl
    · omega
    · exact ha.2.1
    · exact ha.2.2.1
    · exact ha.2.2.2
  obtain ⟨g1, g2, g3, g4, g5, ⟨g6, g7, g8⟩, g9⟩ := hs
  refine ⟨?_, fun X hX => ?_, fun Z hZ => ?_⟩
  · obtain ⟨a0, a2, a3, a4, a5, a6, a7, a8, a9, a10, a11, a12, a13, a14, as, ab, ad, ao⟩ := g1
    refine ⟨?_, ?_, ?_, g4, ?_, ⟨?_, ?_, ?_⟩, fun b b0 b1 => ?_⟩
    · show BD (barA S.A a)
      unfold BD
      rw [e 0 (by decide) (by decide), e 1 (by decide) (by decide), e2, e 3 (by decide) (by decide), e 4 (by decide) (by decide), e 5 (by decide) (by decide), e 6 (by decide) (by decide), e 7 (by decide) (by decide), e 8 (by decide) (by decide), e 9 (by decide) (by decide), e 10 (by decide) (by decide), e 11 (by decide) (by decide), e 12 (by decide) (by decide), e 13 (by decide) (by decide), e 14 (by decide) (by decide)]
      refine ⟨a0, by omega, a3, a4, a5, a6, a7, a8, a9, a10, a11, a12, a13, a14, fun d d0 d1 => by rw [e _ (by omega) (by omega)]; exact as d d0 d1, fun j j0 j1 => ?_, fun c c0 c1 => by rw [e _ (by omega) (by omega)]; exact ad c c0 c1, fun c c0 c1 => by rw [e _ (by omega) (by omega)]; have := ao c c0 c1; omega⟩
      by_cases g : 28 + 4 * S.A 2 ≤ j ∧ j < 28 + 4 * S.A 2 + 4
      · rw [show j = 28 + 4 * S.A 2 + (j - 28 - 4 * S.A 2) by omega, en _ (by omega) (by omega)]
        exact haj _ (by omega) (by omega)
      · have : barA S.A a j = S.A j := by
          unfold barA
          rw [if_neg (by omega), if_neg g]
        rw [this]
        exact ab j j0 j1
    · show 2 ≤ barA S.A a 0 ∧ 2 ≤ barA S.A a 1
      rw [e 0 (by decide) (by decide), e 1 (by decide) (by decide)]
      exact g2
    · show 0 ≤ S.rows ∧ S.rows ≤ barA S.A a 1
      rw [e 1 (by decide) (by decide)]
      exact g3
    · show S.st = 0 → barA S.A a 13 = 0
      rw [e 13 (by decide) (by decide)]
      exact g5
    · show barA S.A a 3 = 0
      rw [e 3 (by decide) (by decide)]
      exact g6
    · show barA S.A a 4 = 0
      rw [e 4 (by decide) (by decide)]
      exact g7
    · show barA S.A a 14 = 0
      rw [e 14 (by decide) (by decide)]
      exact g8
    · have b1 : b < barA S.A a 2 := b1
      rw [e2] at b1
      show ∃ c : Int, NM c (up S.Nm (S.A 2) nm b)
      rw [up_at]
      by_cases g : b = S.A 2
      · rw [if_pos g]
        exact hnm
      · rw [if_neg g]
        exact g9 b b0 (by omega)
  · obtain ⟨⟨p1, p2, p3⟩, q2, q3, q4⟩ := hX
    obtain ⟨⟨x0, x1, x2, x3, x4, x5, x6, x7, x8, x9, x10⟩, h2, h3, h4, h5', h6, h7⟩ := p2
    have ne : ∀ i : Int, i ≠ r → ms X r 2 (S.A 2 + 1) i = X i := fun i hi => ms_ne hi
    have s : ∀ k : Int, k ≠ 2 → ms X r 2 (S.A 2 + 1) r k = X r k := fun k hk => by rw [ms_at, if_neg (fun h => hk h.2)]
    have est : ∀ d : Int, 0 ≤ d → d < 12 → stg (barA S.A a) d = stg S.A d := fun d d0 d1 => by
      unfold stg
      rw [e 13 (by decide) (by decide), e (16 + d) (by omega) (by omega)]
    refine ⟨by rw [ne 37 (by omega)]; exact p1, ⟨?_, fun c c0 c1 => ?_, fun c c0 c1 => ?_, fun d d0 d1 => ?_, fun b b0 b1 => ?_, fun b b0 b1 => ?_, fun b b0 b1 => ?_⟩, fun b b0 b1 => ?_⟩
    · show _ = barA S.A a 0 ∧ _ = barA S.A a 1 ∧ _ = barA S.A a 2 ∧ _ = barA S.A a 5 ∧ _ = barA S.A a 6 ∧ _ = barA S.A a 7 ∧ _ = barA S.A a 8 ∧ _ = barA S.A a 9 ∧ _ = barA S.A a 10 ∧ _ = barA S.A a 11 ∧ _ = barA S.A a 12
      rw [s 0 (by decide), s 1 (by decide), s 3 (by decide), s 4 (by decide), s 5 (by decide), s 6 (by decide), s 7 (by decide), s 8 (by decide), s 9 (by decide), s 10 (by decide), e 0 (by decide) (by decide), e 1 (by decide) (by decide), e2, e 5 (by decide) (by decide), e 6 (by decide) (by decide), e 7 (by decide) (by decide), e 8 (by decide) (by decide), e 9 (by decide) (by decide), e 10 (by decide) (by decide), e 11 (by decide) (by decide), e 12 (by decide) (by decide)]
      exact ⟨x0, x1, by rw [ms_at, if_pos ⟨rfl, rfl⟩], x3, x4, x5, x6, x7, x8, x9, x10⟩
    · show _ = barA S.A a (48 + c)
      rw [ne _ (by omega), e _ (by omega) (by omega)]
      exact h2 c c0 c1
    · show _ = barA S.A a (108 + c)
      rw [ne _ (by omega), e _ (by omega) (by omega)]
      exact h3 c c0 c1
    · show _ = stg (barA S.A a) d
      rw [ne _ (by omega), est d d0 d1]
      exact h4 d d0 d1
    · have b1 : b < barA S.A a 2 := b1
      rw [e2] at b1
      show _ = barA S.A a (28 + 4 * b) ∧ _ = barA S.A a (28 + 4 * b + 1) ∧ _ = barA S.A a (28 + 4 * b + 2) ∧ _ = barA S.A a (28 + 4 * b + 3)
      rw [ne _ (by omega), ne _ (by omega), ne _ (by omega), ne _ (by omega)]
      by_cases g : b = S.A 2
      · subst g
        have f0 := en 0 (by decide) (by decide)
        rw [Int.add_zero] at f0
        have k0 := q4 0 (by decide) (by decide)
        rw [Int.add_zero] at k0
        have k1 := q4 1 (by decide) (by decide)
        have k2 := q4 2 (by decide) (by decide)
        have k3 := q4 3 (by decide) (by decide)
        rw [f0, en 1 (by decide) (by decide), en 2 (by decide) (by decide), en 3 (by decide) (by decide)]
        rw [show r + 5 + 1 = r + 6 by omega] at k1
        rw [show r + 5 + 2 = r + 7 by omega] at k2
        rw [show r + 5 + 3 = r + 8 by omega] at k3
        exact ⟨k0, k1, k2, k3⟩
      · have f0 := eo b 0 b0 (by omega) (by decide) (by decide)
        rw [Int.add_zero] at f0
        rw [f0, eo b 1 b0 (by omega) (by decide) (by decide), eo b 2 b0 (by omega) (by decide) (by decide), eo b 3 b0 (by omega) (by decide) (by decide)]
        exact h5' b b0 (by omega)
    · have b1 : b < barA S.A a 2 := b1
      rw [e2] at b1
      show LE (barA S.A a) b _
      have el : ∀ l : Int, LE S.A b l → LE (barA S.A a) b l := fun l hl => by
        unfold LE at *
        have hc := BD_cells g1
        rw [e 0 (by decide) (by decide), e 1 (by decide) (by decide)]
        rcases hl with ⟨l1, l2⟩ | ⟨l1, l2, l3, l4⟩
        · exact Or.inl ⟨l1, fun c c0 c1 => by rw [e _ (by omega) (by omega)]; exact l2 c c0 c1⟩
        · exact Or.inr ⟨l1, l2, by rw [e _ (by omega) (by omega)]; exact l3, fun c c0 c1 => by rw [e _ (by omega) (by omega)]; exact l4 c c0 c1⟩
      rw [ne _ (by omega)]
      by_cases g : b = S.A 2
      · rw [g, q2]
        rw [g] at el
        refine el _ (Or.inl ⟨rfl, fun c c0 c1 => ?_⟩)
        have hc := BD_cells g1
        have := g1.2.2.2.2.2.2.2.2.2.2.2.2.2.2.2.2.2 c c0 (by omega)
        omega
      · exact el _ (h6 b b0 (by omega))
    · rw [ne _ (by omega), ne _ (by omega), ne _ (by omega), ne _ (by omega)]
      exact h7 b b0 b1
    · have b1 : b < barA S.A a 2 := b1
      rw [e2] at b1
      show NM _ (up S.Nm (S.A 2) nm b)
      rw [ne _ (by omega), up_at]
      by_cases g : b = S.A 2
      · rw [if_pos g, g]
        exact q3
      · rw [if_neg g]
        exact p3 b b0 (by omega)
  · obtain ⟨q1, q2, q3, q4, q5⟩ := hZ
    refine ⟨by rw [ms_ne (by decide)]; exact q1, fun q q0 q1 => ?_, fun b b0 b1 => ?_⟩
    · show _ = barA S.A a q
      rw [ms_at]
      by_cases g : q = 2
      · rw [if_pos ⟨rfl, by omega⟩, g, e2]
      · rw [if_neg (by omega)]
        by_cases g2 : 28 + 4 * S.A 2 ≤ q ∧ q < 28 + 4 * S.A 2 + 4
        · have := q5 (q - 28 - 4 * S.A 2) (by omega) (by omega)
          rw [show (1788 : Int) + 4 * S.A 2 + (q - 28 - 4 * S.A 2) = 1760 + q by omega] at this
          rw [this]
          unfold barA
          rw [if_neg g, if_pos g2]
        · rw [q2 q q0 q1 (by omega)]
          unfold barA
          rw [if_neg g, if_neg g2]
    · have b1 : b < barA S.A a 2 := b1
      rw [e2] at b1
      show _ = up S.Nm (S.A 2) nm b
      rw [ms_ne (by decide), up_at]
      by_cases g : b = S.A 2
      · rw [if_pos g, g]
        exact q4
      · rw [if_neg g]
        exact q3 b b0 (by omega)
