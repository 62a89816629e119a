/-! tells and dredged: bests over rows of other weights -/
theorem few_ne {A : Int → Int} {nd f to a v : Int} (hB : BD A) (f0 : 0 ≤ f) (f1 : f < A 0 * A 1) (h : FEW A nd f to a v) : (v = -1 ∧ ¬ WAYP A nd f to a) ∨ (0 ≤ v ∧ v ≤ 29205 ∧ WAYP A nd f to a) := by
  have hw := few_way hB f0 f1 h
  by_cases g : WAYP A nd f to a
  · obtain ⟨V, v1, v2, v3⟩ := id g
    have := hw.1 g V v1
    exact Or.inr ⟨this.2.2.2.1, this.2.2.2.2, g⟩
  · exact Or.inl ⟨hw.2 g, g⟩
/-- the greatest g of the sets below q that have a way -/
def MX (A : Int → Int) (nd f to : Int) (g : Int → Int) (q v : Int) : Prop := (∀ a : Int, 0 ≤ a → a < q → WAYP A nd f to a → g a ≤ v) ∧ (v = 0 ∨ ∃ a : Int, (0 ≤ a ∧ a < q) ∧ WAYP A nd f to a ∧ v = g a)
theorem MX.zero {A : Int → Int} {nd f to : Int} {g : Int → Int} : MX A nd f to g 0 0 := ⟨fun a _ _ => by omega, Or.inl rfl⟩
theorem MX.no {A : Int → Int} {nd f to : Int} {g : Int → Int} {q v : Int} (h : MX A nd f to g q v) (hn : ¬ WAYP A nd f to q) : MX A nd f to g (q + 1) v := by
  refine ⟨fun a a0 a1 ha => ?_, ?_⟩
  · by_cases e : a = q
    · subst e
      exact absurd ha hn
    · exact h.1 a a0 (by omega) ha
  · rcases h.2 with e | ⟨a, ⟨a0, a1⟩, a2, a3⟩
    · exact Or.inl e
    · exact Or.inr ⟨a, ⟨a0, by omega⟩, a2, a3⟩
theorem MX.yes {A : Int → Int} {nd f to : Int} {g : Int → Int} {q v : Int} (q0 : 0 ≤ q) (h : MX A nd f to g q v) (hn : WAYP A nd f to q) : MX A nd f to g (q + 1) (max v (g q)) := by
  refine ⟨fun a a0 a1 ha => ?_, ?_⟩
  · by_cases e : a = q
    · subst e
      omega
    · have := h.1 a a0 (by omega) ha
      omega
  · by_cases e : v < g q
    · exact Or.inr ⟨q, ⟨q0, by omega⟩, hn, by omega⟩
    · rw [show max v (g q) = v by omega]
      rcases h.2 with e | ⟨a, ⟨a0, a1⟩, a2, a3⟩
      · exact Or.inl e
      · exact Or.inr ⟨a, ⟨a0, by omega⟩, a2, a3⟩
theorem BO_mx {A w : Int → Int} {nd f to v v' : Int} {g : Int → Int} (h : BO A nd f to w v) (h' : MX A nd f to g (NS A) v') (hg : ∀ a : Int, 0 ≤ a → a < NS A → g a = pS w 0 a) (g0 : ∀ a : Int, 0 ≤ a → a < NS A → 0 ≤ pS w 0 a) : v' = v := by
  obtain ⟨-, h1, h2⟩ := h
  rcases h'.2 with e | ⟨a, ⟨a0, a1⟩, a2, a3⟩
  · rcases h2 with ⟨e2, -⟩ | ⟨b, ⟨b0, b1⟩, b2, b3⟩
    · omega
    · have := h'.1 b b0 b1 b2
      have := hg b b0 b1
      have := g0 b b0 b1
      omega
  · have i1 := h1 a a0 a1 a2
    have i2 := hg a a0 a1
    rcases h2 with ⟨e2, e3⟩ | ⟨b, ⟨b0, b1⟩, b2, b3⟩
    · exact absurd a2 (e3 a a0 a1)
    · have := h'.1 b b0 b1 b2
      have := hg b b0 b1
      omega
theorem sm_mle {w w' : Int → Int} : ∀ n : Nat, (∀ s : Int, 0 ≤ s → s < n → w s ≤ w' s) → sm w n ≤ sm w' n
  | 0, _ => Int.le_refl _
  | n + 1, h => by
    have h1 := sm_mle n (fun s a b => h s a (by omega))
    have h2 := h n (by omega) (by omega)
    show sm w n + w n ≤ sm w' n + w' n
    omega
theorem TH.wt2 {P A G : Int → Int} (h : TH P A) (hN : 1 ≤ NS A) (hG : ∀ s : Int, 0 ≤ s → s < 32 → 0 ≤ G s ∧ G s ≤ P s) : WT A G := by
  refine ⟨fun s a b => (hG s a b).1, fun s a b => ?_, ?_⟩
  · have h1 := hG s (by omega) b
    have h2 := h.2.2.1 s a b
    omega
  · have h1 := sm_mle (w := G) (w' := P) 32 (fun s a b => (hG s a b).2)
    have h2 := h.2.1
    omega
theorem sg_split {P : Int → Int} {l a : Int} (l0 : 0 ≤ l) (l1 : l < 32) (a0 : 0 ≤ a) (a1 : a < 32) : ∀ n : Nat, n ≤ 32 → sg (pq 0 l) (fun s => if ia s a = 0 then 0 else P s) n = sg (pq 0 l) P n - sg (pq 0 (io l a)) P n
  | 0, _ => rfl
  | n + 1, h => by
    have ih := sg_split (P := P) l0 l1 a0 a1 n (by omega)
    have h3 := or_3 (s := (n : Int)) (by omega) (by omega) l0 l1 a0 a1
    have e0 : ∀ s : Int, ia s 0 = 0 ∨ ia s 0 ≠ 0 := fun s => by omega
    show sg (pq 0 l) (fun s => if ia s a = 0 then 0 else P s) n + (if pq 0 l n = true then (if ia n a = 0 then 0 else P n) else 0) = sg (pq 0 l) P n + (if pq 0 l n = true then P n else 0) - (sg (pq 0 (io l a)) P n + (if pq 0 (io l a) n = true then P n else 0))
    rw [ih]
    unfold pq
    by_cases z : ia (n : Int) 0 = 0
    · by_cases g1 : ia (n : Int) l = 0
      · by_cases g2 : ia (n : Int) a = 0
        · have g3 := h3.mpr ⟨g1, g2⟩
          simp only [z, g1, g2, g3, decide_true, Bool.and_true, if_true]
          omega
        · have g3 : ¬ ia (n : Int) (io l a) = 0 := fun e => g2 (h3.mp e).2
          simp only [z, g1, g2, g3, decide_true, decide_false, Bool.and_true, Bool.and_false, Bool.false_eq_true, if_true, if_false]
          omega
      · have g3 : ¬ ia (n : Int) (io l a) = 0 := fun e => g1 (h3.mp e).1
        simp only [z, g1, g3, decide_true, decide_false, Bool.and_false, Bool.false_eq_true, if_false]
        omega
    · simp only [z, decide_false, Bool.false_and, Bool.false_eq_true, if_false]
      omega
theorem pS_split {P : Int → Int} {l a : Int} (l0 : 0 ≤ l) (l1 : l < 32) (a0 : 0 ≤ a) (a1 : a < 32) : pS (fun s => if ia s a = 0 then 0 else P s) 0 l = pS P 0 l - pS P 0 (io l a) := sg_split l0 l1 a0 a1 32 (Nat.le_refl _)
theorem pS_ext {P Q : Int → Int} {a b : Int} (h : ∀ s : Int, 0 ≤ s → s < 32 → P s = Q s) : pS P a b = pS Q a b := sg_ext 32 (fun _ _ _ => rfl) h
theorem ms_row {X : Mem} {i k v : Int} {G : Int → Int} : ms (ma X i G) i k v = ma X i (up G k v) := by rw [ms_ma, ma_same, ma_ma]
theorem tells_34 {X : Mem} {P : Int → Int} {a : Int} (a0 : 0 ≤ a) (a1 : a < 32) (h8 : X 42 8 = a) (h18 : X 18 = P) : ∀ (k : Nat) (i : Int) (G : Int → Int), 0 ≤ i → i ≤ 32 → (32 - i).toNat < k → (∀ s : Int, 0 ≤ s → s < i → G s = if ia s a = 0 then 0 else P s) →
    ∃ G' : Int → Int, L_X11_tells_34 k i (ma X 59 G) = B_X11_tells_81 (ma X 59 G') ∧ ∀ s : Int, 0 ≤ s → s < 32 → G' s = if ia s a = 0 then 0 else P s := by
  intro k
  induction k with
  | zero => intro i _ _ _ h; omega
  | succ k ih =>
    intro i G i0 i1 hk hG
    rw [L_X11_tells_34, c2_ok (by omega) (by omega) (by decide) (by decide)]
    by_cases g : 32 ≤ i
    · rw [if_pos g]
      exact ⟨G, rfl, fun s s0 s1 => hG s s0 (by omega)⟩
    · have hx := an_32 i0 (by omega) a0 a1
      have hw : ∀ v : Int, v = (if ia i a = 0 then 0 else P i) → ∀ s : Int, 0 ≤ s → s < i + 1 → up G i v s = if ia s a = 0 then 0 else P s := fun v hv s s0 s1 => by
        rw [up_at]
        by_cases e : s = i
        · rw [if_pos e, hv, e]
        · rw [if_neg e]
          exact hG s s0 (by omega)
      rw [if_neg g, ma_ne (by decide), h8, ma_ne (by decide), h18, c1_okk (by omega) (by omega)]
      by_cases g2 : ia i a = 0
      · rw [if_neg (by simpa using g2), B_X11_tells_74, ax_ok i0 (by omega), bd_eq, ms_row]
        exact ih (i + 1) _ (by omega) (by omega) (by omega) (hw 0 (by rw [if_pos g2]))
      · rw [if_pos g2, ax_ok i0 (by omega), B_X11_tells_74, ax_ok i0 (by omega), bd_eq, ms_row]
        exact ih (i + 1) _ (by omega) (by omega) (by omega) (hw (P i) (by rw [if_neg g2]))
theorem tellsm_40 {Y : Mem} {P : Int → Int} {nd f to a : Int} (hB : BD (Y 121)) (f0 : 0 ≤ f) (f1 : f < Y 121 0 * Y 121 1) (hT : TH P (Y 121)) (hF : ∀ a : Int, 0 ≤ a → a < NS (Y 121) → FEW (Y 121) nd f to a (Y 134 a)) (a0 : 0 ≤ a) (a1 : a < NS (Y 121)) : ∀ (k : Nat) (v q : Int), 0 ≤ q → q ≤ NS (Y 121) → (NS (Y 121) - q).toNat < k → (0 ≤ v ∧ v ≤ 1000000) → MX (Y 121) nd f to (fun l => pS P 0 l - pS P 0 (io l a)) q v →
    ∃ v' : Int, L_X12_tells_40 k a v q Y = B_X12_tells_93 a v' Y ∧ MX (Y 121) nd f to (fun l => pS P 0 l - pS P 0 (io l a)) (NS (Y 121)) v' ∧ 0 ≤ v' ∧ v' ≤ 1000000 := by
  have hN := NS_r hB.2.1
  intro k
  induction k with
  | zero => intro v q _ _ h; omega
  | succ k ih =>
    intro v q q0 q1 hk hv hM
    have e2 : f_X12_sets Y = some (NS (Y 121), Y) := sets_eq
    rw [L_X12_tells_40, e2, cl_some, c2_ok (by omega) (by omega) (by omega) (by omega)]
    by_cases g : NS (Y 121) ≤ q
    · rw [if_pos g]
      exact ⟨v, rfl, by rw [show NS (Y 121) = q by omega]; exact hM, hv.1, hv.2⟩
    · have hf := few_ne hB f0 f1 (hF q q0 (by omega))
      rw [if_neg g, ax_ok q0 (by omega), c2_ok (by omega) (by omega) (by decide) (by decide)]
      rcases hf with ⟨e, hn⟩ | ⟨e1, e3, hn⟩
      · rw [if_neg (by simpa using e), B_X12_tells_87]
        exact ih v (q + 1) (by omega) (by omega) (by omega) hv (hM.no hn)
      · have ho := or_NS hB.2.1 q0 (by omega) a0 a1
        have p1 := TH_r hT (a := 0) (b := q)
        have p2 := TH_r hT (a := 0) (b := io q a)
        rw [if_pos (by omega), partsOf_eq hT hB.2.1 (inI_s (by decide) (by decide)), cl_some, partsOf_eq hT hB.2.1 (inI_s (by decide) (by decide)), cl_some, d2_ok (by omega) (by omega) (by omega) (by omega), bd_eq, B_X12_tells_87]
        exact ih _ (q + 1) (by omega) (by omega) (by omega) (by omega) (hM.yes q0 hn)
theorem q_tells : pair_37 REL := by
  intro f to hf ht cn X hcn h
  obtain ⟨n1, n2, n3, n4, n5, n6⟩ := h.now
  have hN := NS_r n3.2.1
  have eM : ∀ v : Int, ms X 0 16 v 121 = X 121 := fun v => s16 (by decide)
  show OUT cn (f_X11_tells f to) (f_X12_tells f to) X
  by_cases gc : (0 ≤ f ∧ f < X 121 0 * X 121 1) ∧ (0 ≤ to ∧ to < X 121 0 * X 121 1)
  · obtain ⟨g1, g2⟩ := gc
    obtain ⟨Y1, y0, yG, y14, y15, yS, yc⟩ := choice_yes h hf ht g1 g2
    have y18 : Y1 18 = X 18 := funext fun k => y0 18 k (by unfold SCR; omega)
    rcases yc with ⟨hex, ec⟩ | ⟨hno, ec⟩
    · obtain ⟨Y2, a, v, mi, c1, c2, c3, c4, c5, c6, c7, c8⟩ := choose_eq (p := 18) (w := X 18) n3 g1.1 g1.2 g2.1 g2.2 yG yS (by rw [y18]; exact n6.wt) y18 y14 y15 hex
      obtain ⟨s1, s2, s3, s4, -⟩ := id c7
      have hG2 : GL (X 121) (ND (X 121)) (X 2 0) Y2 := yG.fr (fun i x => c2 i (by omega) (by omega) (by omega)) (fun q x => c3 q (by omega) (by omega) (by omega)) (c2 46 (by decide) (by decide) (by decide))
      obtain ⟨G, t1, t2⟩ := tells_34 (X := Y2) (P := X 18) (a := a) s1.1 (by omega) c4 (by rw [c2 18 (by decide) (by decide) (by decide)]; exact y18) KF 0 (Y2 59) (by decide) (by decide) (by rw [KF_eq]; omega) (fun s _ _ => by omega)
      rw [ma_self] at t1
      have hG3 : GL (X 121) (ND (X 121)) (X 2 0) (ma Y2 59 G) := hG2.fr (fun i x => ma_ne (by omega)) (fun q x => by rw [ma_ne (by decide)]) (ma_ne (by decide))
      have hS3 : SRC (X 121) (ND (X 121)) f to (NS (X 121)) (ma Y2 59 G) := by
        have e42 : (ma Y2 59 G) 42 2 = Y1 42 2 := by rw [ma_ne (by decide), c3 2 (by decide) (by decide) (by decide)]
        have e43 : (ma Y2 59 G) 43 = Y1 43 := by rw [ma_ne (by decide), c2 43 (by decide) (by decide) (by decide)]
        have e44 : (ma Y2 59 G) 44 = Y1 44 := by rw [ma_ne (by decide), c2 44 (by decide) (by decide) (by decide)]
        unfold SRC
        rw [e42, e43, e44]
        exact yS
      have hW : WT (X 121) G := n6.wt2 hN.1 fun s a b => by
        have := n6.1 s a b
        rw [t2 s a b]
        split <;> omega
      obtain ⟨m, S, b1, b2, -⟩ := bestOf_eq (p := 59) (w := G) n3 hG3 hS3 (by rw [ma_same]; exact hW) ma_same
      have hv1 : v ≤ 1000000 := by
        rw [s3]
        exact (TH_r n6).2
      have eG : ∀ l : Int, 0 ≤ l → l < NS (X 121) → pS (X 18) 0 l - pS (X 18) 0 (io l a) = pS G 0 l := fun l l0 l1 => by
        rw [← pS_split l0 (by omega) s1.1 (by omega)]
        exact (pS_ext fun s x y => t2 s x y).symm
      have hm1 : m ≤ 1000000 := by
        rcases b2.2.2 with ⟨e, -⟩ | ⟨l, ⟨l0, l1⟩, -, e⟩
        · omega
        · have p1 := TH_r n6 (a := 0) (b := l)
          have p2 := TH_r n6 (a := 0) (b := io l a)
          have := eG l l0 l1
          omega
      have hJ := frac_J (a := v + m) (b := 1000000) (by have := b2.1; omega) (by omega) (by decide) (by decide)
      have hY3 : ∀ i k : Int, ¬ SCR i k → ma (ma Y2 59 G) 45 S i k = X i k := fun i k q => by
        rw [ma_ne (by unfold SCR at q; omega), ma_ne (by unfold SCR at q; omega)]
        by_cases e : i = 42
        · subst e
          rw [c3 k (by unfold SCR at q; omega) (by unfold SCR at q; omega) (by unfold SCR at q; omega)]
          exact y0 42 k q
        · rw [c2 i e (by unfold SCR at q; omega) (by unfold SCR at q; omega)]
          exact y0 i k q
      refine out_fs h hY3 hJ.1 hJ.2 (r := 1) (inI_s (by decide) (by decide)) ?_ fun x121 hck => ?_
      · unfold f_X11_tells
        rw [ec, cl_some, c1_okk (by decide) (by decide), if_pos rfl, c1, cl_some, t1, B_X11_tells_81, b1, cl_some, ma_ne (by decide), c6, tellF_s (by have := b2.1; omega) (by omega) (by decide) (by decide), cl_some, cz_1]
      · obtain ⟨a', Z1, r1, r2, r3, r4, r5⟩ := surestOf_eq (P := X 18) (f := f) (to := to) (by rw [x121]; exact n3) hck (by omega) (by rw [x121]; exact n6) g1.1 (by rw [x121]; exact g1.2) g2.1 (by rw [x121]; exact g2.2)
        rw [x121] at r4 r5
        have ea : a' = a := by
          rcases r5 with ⟨-, r5⟩ | r5
          · exact absurd s2 (r5 a s1.1 s1.2)
          · exact SUR_u r5 c7
        have z121 : Z1 121 = X 121 := by
          rw [← x121]
          exact funext fun k => r2 121 k (by omega) (by decide) (by decide) (by decide)
        obtain ⟨m', k1, k2, k3, k4⟩ := tellsm_40 (Y := Z1) (P := X 18) (nd := ND (X 121)) (f := f) (to := to) (a := a) (by rw [z121]; exact n3) g1.1 (by rw [z121]; exact g1.2) (by rw [z121]; exact n6) (by rw [z121]; exact r4) s1.1 (by rw [z121]; exact s1.2) KF 0 0 (by decide) (by rw [z121]; omega) (by rw [KF_eq, z121]; omega) ⟨by decide, by decide⟩ MX.zero
        rw [z121] at k2
        have em : m' = m := BO_mx b2 k2 eG fun l _ _ => hW.r.1
        refine ⟨Z1, ?_, fun i k q1 q4 => r2 i k (by unfold CKC at q4; omega) (by unfold SCR at q1; omega) (by unfold SCR at q1; omega) (by unfold CKC at q4; omega), r3⟩
        unfold f_X12_tells
        rw [areCells_eq (by rw [x121]; exact n3) hf ht, x121, if_pos ⟨g1, g2⟩, cl_some, c1_okk (by decide) (by decide), if_pos (by decide), r1, cl_some, ea, c2_ok (by omega) (by omega) (by decide) (by decide), if_pos (by omega), k1, B_X12_tells_93, partsOf_eq (P := X 18) (by rw [z121]; exact n6) (by rw [z121]; exact n3.2.1) (inI_s (by decide) (by decide)), cl_some, ← s3, em, tellsBy_s (by have := b2.1; omega) (by omega) (by decide) (by decide), cl_some, cz_1]
    · obtain ⟨b1, b2, b3⟩ := h.scr (Y := ms Y1 0 16 6) (fun i k q1 q2 => by rw [ms_at, if_neg (by unfold ANS at q2; omega)]; exact y0 i k q1)
      refine out_scr h y0 (r := 0) (v := 6) (by decide) (by decide) (inI_s (by decide) (by decide)) ?_ ?_
      · unfold f_X11_tells
        rw [ec, cl_some, c1_ok (by decide) (by decide), if_neg (by decide), refuse_eq, cl_some, cz_0]
      · obtain ⟨a', Z1, r1, r2, r3, r4, r5⟩ := surestOf_eq (P := X 18) (f := f) (to := to) b1 b3 (by omega) (by rw [b2]; exact n6) g1.1 (by rw [b2]; exact g1.2) g2.1 (by rw [b2]; exact g2.2)
        rw [b2] at r4 r5
        have ea : a' = -1 := by
          rcases r5 with ⟨r5, -⟩ | r5
          · exact r5
          · exact absurd r5.2.1 (hno a' r5.1.1 r5.1.2)
        refine ⟨Z1, ?_, fun i k q1 q4 => r2 i k (by unfold CKC at q4; omega) (by unfold SCR at q1; omega) (by unfold SCR at q1; omega) (by unfold CKC at q4; omega), r3⟩
        unfold f_X12_tells
        rw [areCells_eq b1 hf ht, b2, if_pos ⟨g1, g2⟩, cl_some, c1_ok (by decide) (by decide), if_pos (by decide), r1, cl_some, ea, c2_ok (by decide) (by decide) (by decide) (by decide), if_neg (by decide), isM_eq (by decide) (by decide), cl_some, cz_0]
  · refine out_st h (r := 0) (v := 1) (by decide) (by decide) (inI_s (by decide) (by decide)) ?_ ?_
    · unfold f_X11_tells
      rw [choice_no h hf ht gc, cl_some, c1_ok (by decide) (by decide), if_neg (by decide), refuse_eq, cl_some, cz_0]
    · unfold f_X12_tells
      rw [areCells_eq (by rw [eM]; exact n3) hf ht, eM, if_neg gc, cl_some, c1_ok (by decide) (by decide), if_neg (by decide), isM_eq (by decide) (by decide), cl_some, cz_0]
