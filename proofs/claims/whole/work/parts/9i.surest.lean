/-! the surest -/
theorem out_fr {cn : Int} {a b : Mem → Option (Int × Mem)} {X Y : Mem} (h : REL cn X) (hY : ∀ i k : Int, ¬ SCR i k → ¬ WAC i k → Y i k = X i k) {p q r : Int} (hp : inJ p) (hq : inJ q) (hr : inI r) (ea : a X = some (r, fC Y p q)) (eb : ∃ Z : Mem, b (fC Y p q) = some (r, fM Z p q) ∧ (∀ i k : Int, ¬ SCR i k → ¬ WAC i k → ¬ CKC i k → Z i k = fC Y p q i k) ∧ (CK cn (fC Y p q) → CK cn Z) ∧ (RK (fC Y p q) → RK (fM Z p q))) (hRK : RK X → RK (fC Y p q)) : OUT cn a b X := by
  obtain ⟨Z, eb, hZ, hC, hK⟩ := eb
  have hXY : ∀ i k : Int, ¬ SCR i k → ¬ ANS i k → ¬ WAC i k → fC Y p q i k = X i k := fun i k s1 s2 s3 => by
    rw [fC_o (by unfold ANS at s2; omega)]
    exact hY i k s1 s3
  have hall : ∀ i k : Int, ¬ SCR i k → ¬ ANS i k → ¬ WAC i k → ¬ CKC i k → fM Z p q i k = X i k := fun i k s1 s2 s4 s3 => by
    rw [fM_o (by unfold ANS at s2; omega), hZ i k s1 s4 s3]
    exact hXY i k s1 s2 s4
  have hz121 : Z 121 = X 121 := funext fun k => by
    rw [hZ 121 k (by unfold SCR; omega) (by unfold WAC; omega) (by unfold CKC; omega)]
    exact hXY 121 k (by unfold SCR; omega) (by unfold ANS; omega) (by unfold WAC; omega)
  have x121 : fC Y p q 121 = X 121 := funext fun k => hXY 121 k (by unfold SCR; omega) (by unfold ANS; omega) (by unfold WAC; omega)
  have hckY : CK cn (fC Y p q) := by
    refine CK.fr h.now.2.2.1 h.2.2.2.2.2.2.2.2.2.2.2.2.2 ?_ ?_ ?_ ?_ ?_ ?_ ?_
    · exact hXY _ _ (by unfold SCR; omega) (by unfold ANS; omega) (by unfold WAC; omega)
    · exact hXY _ _ (by unfold SCR; omega) (by unfold ANS; omega) (by unfold WAC; omega)
    · exact hXY _ _ (by unfold SCR; omega) (by unfold ANS; omega) (by unfold WAC; omega)
    · exact hXY _ _ (by unfold SCR; omega) (by unfold ANS; omega) (by unfold WAC; omega)
    · exact hXY _ _ (by unfold SCR; omega) (by unfold ANS; omega) (by unfold WAC; omega)
    · exact funext fun k => hXY _ _ (by unfold SCR; omega) (by unfold ANS; omega) (by unfold WAC; omega)
    · rw [x121]
      exact fun _ _ => rfl
  have hck := hC hckY
  refine ⟨r, _, _, ea, eb, hr, RS_frac (Y := Y) hp hq (fun k => hZ 0 k (by unfold SCR; omega) (by unfold WAC; omega) (by unfold CKC; omega)), RZ.up (h.2.fr3 (fun i k s1 s2 s3 s4 => hall i k s1 s2 s3 s4) (hK (hRK h.2.2.2.2.2.2.2.2.2.1)) ?_)⟩
  refine CK.fr (by rw [hz121]; exact h.now.2.2.1) hck ?_ ?_ ?_ ?_ ?_ ?_ ?_
  · exact fM_o (by omega)
  · exact fM_o (by omega)
  · exact fM_o (by omega)
  · exact fM_o (by omega)
  · exact fM_o (by omega)
  · exact funext fun k => fM_o (by omega)
  · exact fun k _ => fM_o (by omega)
theorem sub_top : ∀ (m : Fin 6) (a : Fin 32), a.val < 2 ^ m.val → ∀ b : Fin 5, ia (ishr (a.val : Int) (b.val : Int)) 1 = 1 → ia (ishr (((2 ^ m.val : Nat) : Int) - 1) (b.val : Int)) 1 = 1 := by decide +kernel
theorem sub_all {A : Int → Int} (hA : 0 ≤ A 2 ∧ A 2 ≤ 5) {a : Int} (a0 : 0 ≤ a) (a1 : a < NS A) : sub a (NS A - 1) := by
  obtain ⟨e1, e2, e3⟩ := NS_v hA
  have hN := NS_r hA
  obtain ⟨af, rfl⟩ := fin32 a0 (show a < 32 by omega)
  intro b b0 b1 hb
  obtain ⟨bf, rfl⟩ := fin5 b0 b1
  rw [e1]
  exact sub_top ⟨(A 2).toNat, by omega⟩ af (by show af.val < 2 ^ (A 2).toNat; generalize 2 ^ (A 2).toNat = B at *; omega) bf hb
theorem few_of {A : Int → Int} {nd f to a : Int} {V : Int → Int → Int} (f0 : 0 ≤ f) (f1 : f < A 0 * A 1) (hF : FIX A nd a to V) (ho : opn A nd a f) (hV : V f 8 ≠ FAR) : FEW A nd f to a (V f 8) := by
  have hr := (hF f f0 f1 8 (by decide) (by decide)).1
  exact ⟨V, hF, Or.inl ⟨ho, by omega, rfl⟩⟩
theorem few_u {A : Int → Int} {nd f to a v v' : Int} (hB : BD A) (f0 : 0 ≤ f) (f1 : f < A 0 * A 1) (h : FEW A nd f to a v) (h' : FEW A nd f to a v') : v = v' := by
  by_cases hw : WAYP A nd f to a
  · obtain ⟨V, hV, -⟩ := id hw
    have e1 := ((few_way hB f0 f1 h).1 hw V hV).1
    have e2 := ((few_way hB f0 f1 h').1 hw V hV).1
    omega
  · have e1 := (few_way hB f0 f1 h).2 hw
    have e2 := (few_way hB f0 f1 h').2 hw
    omega
/-- the surest: greatest sum, fewest minutes, least set -/
def SUR (A : Int → Int) (nd f to : Int) (w : Int → Int) (a v mi : Int) : Prop := (0 ≤ a ∧ a < NS A) ∧ WAYP A nd f to a ∧ v = pS w 0 a ∧ FEW A nd f to a mi ∧ ∀ b : Int, 0 ≤ b → b < NS A → WAYP A nd f to b → pS w 0 b < v ∨ (pS w 0 b = v ∧ ∀ m : Int, FEW A nd f to b m → (mi < m ∨ (mi = m ∧ a ≤ b)))
theorem SUR_u {A : Int → Int} {nd f to : Int} {w : Int → Int} {a v mi a' v' mi' : Int} (h : SUR A nd f to w a v mi) (h' : SUR A nd f to w a' v' mi') : a = a' := by
  obtain ⟨h1, h2, h3, h4, h5⟩ := h
  obtain ⟨g1, g2, g3, g4, g5⟩ := h'
  rcases h5 a' g1.1 g1.2 g2 with p | ⟨p1, p2⟩
  · rcases g5 a h1.1 h1.2 h2 with q | ⟨q1, q2⟩ <;> omega
  · rcases g5 a h1.1 h1.2 h2 with q | ⟨q1, q2⟩
    · omega
    · have := p2 mi' g4
      have := q2 mi h4
      omega
theorem choose_22 {X : Mem} {A w S : Int → Int} {nd r f to v : Int} (hB : BD A) (f0 : 0 ≤ f) (f1 : f < A 0 * A 1) (t0 : 0 ≤ to) (t1 : to < A 0 * A 1) (hG0 : GL A nd r X) (hS0 : SRC A nd f to (NS A) X) (hSum : SUM A w S) (hw : WT A w) (hv : 0 ≤ v ∧ v ≤ 1000000000000000) (h14 : X 42 14 = f) (h15 : X 42 15 = to) (h10 : X 42 10 = v) : ∀ (k : Nat) (c : Int) (Y : Mem), 0 ≤ c → c ≤ NS A → (NS A - c).toNat < k → (∀ i : Int, i ≠ 42 → i ≠ 47 → Y i = X i) → (∀ q : Int, q ≠ 8 → q ≠ 9 → Y 42 q = X 42 q) → Y 45 = S →
    ((Y 42 8 = -1 ∧ Y 42 9 = 1000000000 ∧ ∀ b : Int, 0 ≤ b → b < c → WAYP A nd f to b → pS w 0 b ≠ v) ∨ ((0 ≤ Y 42 8 ∧ Y 42 8 < c) ∧ WAYP A nd f to (Y 42 8) ∧ pS w 0 (Y 42 8) = v ∧ FEW A nd f to (Y 42 8) (Y 42 9) ∧ ∀ b : Int, 0 ≤ b → b < c → WAYP A nd f to b → pS w 0 b = v → ∀ m : Int, FEW A nd f to b m → (Y 42 9 < m ∨ (Y 42 9 = m ∧ Y 42 8 ≤ b)))) →
    ∃ Z : Mem, L_X1_chooseSurest_22 k c Y = some (0, Z) ∧ (∀ i : Int, i ≠ 42 → i ≠ 47 → Z i = X i) ∧ (∀ q : Int, q ≠ 8 → q ≠ 9 → Z 42 q = X 42 q) ∧ ((Z 42 8 = -1 ∧ ∀ b : Int, 0 ≤ b → b < NS A → WAYP A nd f to b → pS w 0 b ≠ v) ∨ ((0 ≤ Z 42 8 ∧ Z 42 8 < NS A) ∧ WAYP A nd f to (Z 42 8) ∧ pS w 0 (Z 42 8) = v ∧ FEW A nd f to (Z 42 8) (Z 42 9) ∧ ∀ b : Int, 0 ≤ b → b < NS A → WAYP A nd f to b → pS w 0 b = v → ∀ m : Int, FEW A nd f to b m → (Z 42 9 < m ∨ (Z 42 9 = m ∧ Z 42 8 ≤ b)))) := by
  have hN := NS_r hB.2.1
  have x45 := hG0.1
  intro k
  induction k with
  | zero => intro c Y _ _ hk; omega
  | succ k ih =>
    intro c Y c0 c1 hk hy0 hy1 hy45 hI
    have hG : GL A nd r Y := hG0.fr (fun i h => hy0 i (by omega) (by omega)) (fun q h => hy1 q (by omega) (by omega)) (hy0 46 (by decide) (by decide))
    obtain ⟨q1, q2, q3, -⟩ := id hG
    rw [L_X1_chooseSurest_22, q3, cm_ok q1, show f_X2_setCount r Y = some (ishl 1 (Y r 2), Y) from rfl, cl_some, q2.1.2.2.1, show ishl 1 (A 2) = NS A from rfl, c2_ok (by omega) (by omega) (by omega) (by omega)]
    by_cases g : NS A ≤ c
    · rw [if_pos g]
      have e : c = NS A := by omega
      rw [e] at hI
      refine ⟨Y, rfl, hy0, hy1, ?_⟩
      rcases hI with ⟨a1, -, a3⟩ | a
      · exact Or.inl ⟨a1, a3⟩
      · exact Or.inr a
    · obtain ⟨s1, -⟩ := hS0
      obtain ⟨w1, w2⟩ := s1 c c0 (by omega)
      rw [← hy0 43 (by decide) (by decide)] at w1 w2
      have skip : (WAYP A nd f to c → pS w 0 c ≠ v) → ∀ Y' : Mem, (∀ i : Int, i ≠ 42 → i ≠ 47 → Y' i = X i) → (∀ q : Int, Y' 42 q = Y 42 q) → ∃ Z : Mem, B_X1_chooseSurest_79 (fun x2 X => L_X1_chooseSurest_22 k x2 X) c Y' = some (0, Z) ∧ (∀ i : Int, i ≠ 42 → i ≠ 47 → Z i = X i) ∧ (∀ q : Int, q ≠ 8 → q ≠ 9 → Z 42 q = X 42 q) ∧ ((Z 42 8 = -1 ∧ ∀ b : Int, 0 ≤ b → b < NS A → WAYP A nd f to b → pS w 0 b ≠ v) ∨ ((0 ≤ Z 42 8 ∧ Z 42 8 < NS A) ∧ WAYP A nd f to (Z 42 8) ∧ pS w 0 (Z 42 8) = v ∧ FEW A nd f to (Z 42 8) (Z 42 9) ∧ ∀ b : Int, 0 ≤ b → b < NS A → WAYP A nd f to b → pS w 0 b = v → ∀ m : Int, FEW A nd f to b m → (Z 42 9 < m ∨ (Z 42 9 = m ∧ Z 42 8 ≤ b)))) := by
        intro hno Y' y0 y1
        rw [B_X1_chooseSurest_79]
        refine ih (c + 1) Y' (by omega) (by omega) (by omega) y0 (fun q a b => by rw [y1, hy1 q a b]) (by rw [y0 45 (by decide) (by decide), ← hy0 45 (by decide) (by decide), hy45]) ?_
        rw [y1, y1]
        rcases hI with ⟨a1, a2, a3⟩ | ⟨a1, a2, a3, a4, a5⟩
        · refine Or.inl ⟨a1, a2, fun b b0 b1 hb => ?_⟩
          by_cases e : b = c
          · rw [e] at hb ⊢
            exact hno hb
          · exact a3 b b0 (by omega) hb
        · refine Or.inr ⟨⟨a1.1, by omega⟩, a2, a3, a4, fun b b0 b1 hb hp m hm => ?_⟩
          by_cases e : b = c
          · rw [e] at hb hp
            exact absurd hp (hno hb)
          · exact a5 b b0 (by omega) hb hp m hm
      rw [if_neg g, ax_ok c0 (by omega)]
      by_cases hwc : WAYP A nd f to c
      · rw [w1 hwc, c1_ok (by decide) (by decide), if_neg (by decide), sumWithout_eq hB q1 q2 q3 (by rw [hy45]; exact hSum) c0 (by omega), cl_some, hy1 10 (by decide) (by decide), h10, d2_ok (by have := (hw.r (q := pq 0 c)); unfold pS; omega) (by have := (hw.r (q := pq 0 c)); unfold pS; omega) (by omega) (by omega)]
        by_cases gp : pS w 0 c = v
        · obtain ⟨V, v1, v2, v3⟩ := id hwc
          obtain ⟨R, e1, e2, -⟩ := soonestBy_eq hB hG v1 f0 f1 t0 t1 v2 v3 (by rw [hy1 14 (by decide) (by decide)]; exact h14) (by rw [hy1 15 (by decide) (by decide)]; exact h15)
          have hfc := few_of f0 f1 v1 v2 v3
          have hVb := V_b hB v1 f0 f1 (show (0 : Int) ≤ 8 by decide) (by decide) v2 v3
          have hV0 := (v1 f f0 f1 8 (by decide) (by decide)).1
          have h9 : 0 ≤ Y 42 9 ∧ Y 42 9 ≤ 1000000000 := by
            rcases hI with ⟨-, a2, -⟩ | ⟨-, a2, -, a4, -⟩
            · omega
            · obtain ⟨U, u1, -⟩ := id a2
              have := (few_way hB f0 f1 a4).1 a2 U u1
              omega
          have y42 : ∀ q : Int, sk Y R 42 q = Y 42 q := fun q => by rw [sk_o (by decide)]
          have ysk : ∀ i : Int, i ≠ 42 → i ≠ 47 → sk Y R i = X i := fun i a b => by rw [sk_o b]; exact hy0 i a b
          rw [if_neg (by simpa using gp), e1, cl_some, y42, c2_ok (by omega) (by omega) (by omega) (by omega)]
          by_cases g3 : Y 42 9 ≤ V f 8
          · rw [if_pos g3, B_X1_chooseSurest_79]
            refine ih (c + 1) (sk Y R) (by omega) (by omega) (by omega) ysk (fun q a b => by rw [y42, hy1 q a b]) (by rw [sk_o (by decide)]; exact hy45) ?_
            rw [y42, y42]
            rcases hI with ⟨a1, a2, a3⟩ | ⟨a1, a2, a3, a4, a5⟩
            · omega
            · refine Or.inr ⟨⟨a1.1, by omega⟩, a2, a3, a4, fun b b0 b1 hb hp m hm => ?_⟩
              by_cases e : b = c
              · rw [e] at hm ⊢
                have := few_u hB f0 f1 hm hfc
                omega
              · exact a5 b b0 (by omega) hb hp m hm
          · rw [if_neg g3, bd_eq, bd_eq, B_X1_chooseSurest_79]
            obtain ⟨Z', hZ'⟩ : ∃ Z' : Mem, ms (ms (sk Y R) 42 8 c) 42 9 (V f 8) = Z' := ⟨_, rfl⟩
            have z8 : Z' 42 8 = c := by rw [← hZ', ms_k (by decide), ms_s]
            have z9 : Z' 42 9 = V f 8 := by rw [← hZ', ms_s]
            rw [hZ']
            refine ih (c + 1) Z' (by omega) (by omega) (by omega) (fun i a b => by rw [← hZ', ms_ne a, ms_ne a]; exact ysk i a b) (fun q a b => by rw [← hZ', ms_k b, ms_k a, y42, hy1 q a b]) (by rw [← hZ', ms_ne (by decide), ms_ne (by decide), sk_o (by decide)]; exact hy45) ?_
            rw [z8, z9]
            refine Or.inr ⟨⟨c0, by omega⟩, hwc, gp, hfc, fun b b0 b1 hb hp m hm => ?_⟩
            by_cases e : b = c
            · rw [e] at hm ⊢
              have := few_u hB f0 f1 hm hfc
              omega
            · rcases hI with ⟨a1, a2, a3⟩ | ⟨a1, a2, a3, a4, a5⟩
              · exact absurd hp (a3 b b0 (by omega) hb)
              · have := a5 b b0 (by omega) hb hp m hm
                omega
        · rw [if_pos gp]
          exact skip (fun _ => gp) Y hy0 (fun _ => rfl)
      · rw [w2 hwc, c1_ok (by decide) (by decide), if_pos rfl]
        exact skip (fun h => absurd h hwc) Y hy0 (fun _ => rfl)
/-- the class's choice -/
theorem choose_eq {X : Mem} {A w : Int → Int} {nd r f to p : Int} (hB : BD A) (f0 : 0 ≤ f) (f1 : f < A 0 * A 1) (t0 : 0 ≤ to) (t1 : to < A 0 * A 1) (hG : GL A nd r X) (hS : SRC A nd f to (NS A) X) (hw : WT A (X p)) (hpw : X p = w) (h14 : X 42 14 = f) (h15 : X 42 15 = to) (hex : ∃ a : Int, (0 ≤ a ∧ a < NS A) ∧ WAYP A nd f to a) :
    ∃ (Y : Mem) (a v mi : Int), f_X1_chooseSurest p X = some (0, Y) ∧ (∀ i : Int, i ≠ 42 → i ≠ 45 → i ≠ 47 → Y i = X i) ∧ (∀ q : Int, q ≠ 8 → q ≠ 9 → q ≠ 10 → Y 42 q = X 42 q) ∧ Y 42 8 = a ∧ Y 42 9 = mi ∧ Y 42 10 = v ∧ SUR A nd f to w a v mi ∧ (0 ≤ v ∧ v ≤ 1000000000000000) := by
  have hN := NS_r hB.2.1
  obtain ⟨v, S, e1, ⟨b0, b1, b2⟩, e3⟩ := bestOf_eq hB hG hS hw hpw
  rw [hpw] at hw
  unfold f_X1_chooseSurest
  rw [e1, cl_some, bd_eq, bd_eq, bd_eq]
  obtain ⟨Z, hZ⟩ : ∃ Z : Mem, ms (ms (ms (ma X 45 S) 42 10 v) 42 8 (-1)) 42 9 1000000000 = Z := ⟨_, rfl⟩
  have z0 : ∀ i : Int, i ≠ 42 → i ≠ 45 → Z i = X i := fun i a b => by rw [← hZ, ms_ne a, ms_ne a, ms_ne a, ma_ne b]
  have z45 : Z 45 = S := by rw [← hZ, ms_ne (by decide), ms_ne (by decide), ms_ne (by decide), ma_same]
  have z1 : ∀ q : Int, q ≠ 8 → q ≠ 9 → q ≠ 10 → Z 42 q = X 42 q := fun q a b c => by rw [← hZ, ms_k b, ms_k a, ms_k c, ma_ne (by decide)]
  have z8 : Z 42 8 = -1 := by rw [← hZ, ms_k (by decide), ms_s]
  have z9 : Z 42 9 = 1000000000 := by rw [← hZ, ms_s]
  have z10 : Z 42 10 = v := by rw [← hZ, ms_k (by decide), ms_k (by decide), ms_s]
  have hGZ : GL A nd r Z := hG.fr (fun i h => z0 i (by omega) (by omega)) (fun q h => z1 q (by omega) (by omega) (by omega)) (z0 46 (by decide) (by decide))
  have hSZ : SRC A nd f to (NS A) Z := by
    unfold SRC at *
    rw [z0 43 (by decide) (by decide), z0 44 (by decide) (by decide), z1 2 (by decide) (by decide) (by decide)]
    exact hS
  rw [hZ]
  obtain ⟨Y, i1, i2, i3, i4⟩ := choose_22 (X := Z) (r := r) hB f0 f1 t0 t1 hGZ hSZ e3 hw b0 (by rw [z1 14 (by decide) (by decide) (by decide)]; exact h14) (by rw [z1 15 (by decide) (by decide) (by decide)]; exact h15) z10 KF 0 Z (by decide) (by omega) (by rw [KF_eq]; omega) (fun _ _ _ => rfl) (fun _ _ _ => rfl) z45 (Or.inl ⟨z8, z9, fun b x y => by omega⟩)
  rcases i4 with ⟨-, j2⟩ | ⟨j1, j2, j3, j4, j5⟩
  · exfalso
    rcases b2 with ⟨-, b3⟩ | ⟨a, a1, a2, a3⟩
    · obtain ⟨a, a1, a2⟩ := hex
      exact b3 a a1.1 a1.2 a2
    · exact j2 a a1.1 a1.2 a2 a3.symm
  · refine ⟨Y, Y 42 8, v, Y 42 9, i1, fun i a b c => by rw [i2 i a c, z0 i a b], fun q a b c => by rw [i3 q a b, z1 q a b c], rfl, rfl, by rw [i3 10 (by decide) (by decide), z10], ⟨j1, j2, j3.symm, j4, fun b x y hb => ?_⟩, b0⟩
    have h1 := b1 b x y hb
    by_cases e : pS w 0 b = v
    · exact Or.inr ⟨e, fun m hm => j5 b x y hb e m hm⟩
    · exact Or.inl (by omega)
/-- the reference's choice -/
theorem surestOf_11 {Y : Mem} {P : Int → Int} {nd f to : Int} (hB : BD (Y 121)) (f0 : 0 ≤ f) (f1 : f < Y 121 0 * Y 121 1) (hT : TH P (Y 121)) (hF : ∀ a : Int, 0 ≤ a → a < NS (Y 121) → FEW (Y 121) nd f to a (Y 134 a)) : ∀ (k : Nat) (best c : Int), 0 ≤ c → c ≤ NS (Y 121) → (NS (Y 121) - c).toNat < k → ((best = -1 ∧ ∀ b : Int, 0 ≤ b → b < c → ¬ WAYP (Y 121) nd f to b) ∨ ((0 ≤ best ∧ best < c) ∧ WAYP (Y 121) nd f to best ∧ ∀ b : Int, 0 ≤ b → b < c → WAYP (Y 121) nd f to b → pS P 0 b < pS P 0 best ∨ (pS P 0 b = pS P 0 best ∧ (Y 134 best < Y 134 b ∨ (Y 134 best = Y 134 b ∧ best ≤ b))))) →
    ∃ a : Int, L_X12_surestOf_11 k best c Y = some (a, Y) ∧ ((a = -1 ∧ ∀ b : Int, 0 ≤ b → b < NS (Y 121) → ¬ WAYP (Y 121) nd f to b) ∨ SUR (Y 121) nd f to P a (pS P 0 a) (Y 134 a)) := by
  have hN := NS_r hB.2.1
  have h134 : ∀ a : Int, 0 ≤ a → a < NS (Y 121) → -1 ≤ Y 134 a ∧ Y 134 a ≤ 29205 ∧ (WAYP (Y 121) nd f to a ↔ Y 134 a ≠ -1) := by
    intro a a0 a1
    obtain ⟨w1, w2⟩ := few_way hB f0 f1 (hF a a0 a1)
    by_cases hw : WAYP (Y 121) nd f to a
    · obtain ⟨V, hV, -⟩ := id hw
      have := w1 hw V hV
      exact ⟨by omega, by omega, fun _ => by omega, fun _ => hw⟩
    · have := w2 hw
      exact ⟨by omega, by omega, fun h => absurd h hw, fun h => absurd this h⟩
  intro k
  induction k with
  | zero => intro best c _ _ hk; omega
  | succ k ih =>
    intro best c c0 c1 hk hI
    rw [L_X12_surestOf_11, sets_eq, cl_some, show ishl 1 (Y 121 2) = NS (Y 121) from rfl, c2_ok (by omega) (by omega) (by omega) (by omega)]
    by_cases g : NS (Y 121) ≤ c
    · rw [if_pos g]
      have e : c = NS (Y 121) := by omega
      rw [e] at hI
      refine ⟨best, rfl, ?_⟩
      rcases hI with ⟨a1, a2⟩ | ⟨a1, a2, a3⟩
      · exact Or.inl ⟨a1, a2⟩
      · refine Or.inr ⟨a1, a2, rfl, hF best a1.1 a1.2, fun b b0 b1 hb => ?_⟩
        rcases a3 b b0 b1 hb with q | ⟨q1, q2⟩
        · exact Or.inl q
        · refine Or.inr ⟨q1, fun m hm => ?_⟩
          have := few_u hB f0 f1 hm (hF b b0 b1)
          omega
    · obtain ⟨r1, r2, r3⟩ := h134 c c0 (by omega)
      have take : WAYP (Y 121) nd f to c → (∀ b : Int, 0 ≤ b → b < c → WAYP (Y 121) nd f to b → pS P 0 b < pS P 0 c ∨ (pS P 0 b = pS P 0 c ∧ (Y 134 c < Y 134 b ∨ (Y 134 c = Y 134 b ∧ c ≤ b)))) → ∃ a : Int, B_X12_surestOf_92 (fun x3 x4 X => L_X12_surestOf_11 k x3 x4 X) c c Y = some (a, Y) ∧ ((a = -1 ∧ ∀ b : Int, 0 ≤ b → b < NS (Y 121) → ¬ WAYP (Y 121) nd f to b) ∨ SUR (Y 121) nd f to P a (pS P 0 a) (Y 134 a)) := by
        intro hwc hall
        rw [B_X12_surestOf_92]
        refine ih c (c + 1) (by omega) (by omega) (by omega) (Or.inr ⟨⟨c0, by omega⟩, hwc, fun b b0 b1 hb => ?_⟩)
        by_cases e : b = c
        · rw [e]
          exact Or.inr ⟨rfl, Or.inr ⟨rfl, Int.le_refl _⟩⟩
        · exact hall b b0 (by omega) hb
      have skip : ((best = -1 ∧ ¬ WAYP (Y 121) nd f to c) ∨ ((0 ≤ best ∧ best < c) ∧ (WAYP (Y 121) nd f to c → pS P 0 c < pS P 0 best ∨ (pS P 0 c = pS P 0 best ∧ (Y 134 best < Y 134 c ∨ (Y 134 best = Y 134 c ∧ best ≤ c)))))) → ∃ a : Int, B_X12_surestOf_92 (fun x3 x4 X => L_X12_surestOf_11 k x3 x4 X) best c Y = some (a, Y) ∧ ((a = -1 ∧ ∀ b : Int, 0 ≤ b → b < NS (Y 121) → ¬ WAYP (Y 121) nd f to b) ∨ SUR (Y 121) nd f to P a (pS P 0 a) (Y 134 a)) := by
        intro hs
        rw [B_X12_surestOf_92]
        refine ih best (c + 1) (by omega) (by omega) (by omega) ?_
        rcases hI with ⟨a1, a2⟩ | ⟨a1, a2, a3⟩
        · rcases hs with ⟨-, s2⟩ | ⟨s1, -⟩
          · refine Or.inl ⟨a1, fun b b0 b1 hb => ?_⟩
            by_cases e : b = c
            · rw [e] at hb
              exact s2 hb
            · exact a2 b b0 (by omega) hb
          · omega
        · rcases hs with ⟨s1, -⟩ | ⟨-, s2⟩
          · omega
          · refine Or.inr ⟨⟨a1.1, by omega⟩, a2, fun b b0 b1 hb => ?_⟩
            by_cases e : b = c
            · rw [e] at hb ⊢
              exact s2 hb
            · exact a3 b b0 (by omega) hb
      rw [if_neg g, ax_ok c0 (by omega), c2_ok (by omega) (by omega) (by decide) (by decide)]
      by_cases gw : Y 134 c = -1
      · rw [if_neg (by simpa using gw)]
        have hnw : ¬ WAYP (Y 121) nd f to c := fun h => (r3.mp h) gw
        refine skip ?_
        rcases hI with ⟨a1, -⟩ | ⟨a1, -⟩
        · exact Or.inl ⟨a1, hnw⟩
        · exact Or.inr ⟨a1, fun h => absurd h hnw⟩
      · have hwc := r3.mpr gw
        have hb1 : -1 ≤ best ∧ best < 32 := by
          rcases hI with ⟨a1, -⟩ | ⟨a1, -⟩ <;> omega
        rw [if_pos gw, c2_ok (by omega) (by omega) (by decide) (by decide)]
        by_cases gb : best = -1
        · rw [if_neg (by simpa using gb), B_X12_surestOf_57, d2_ok (by decide) (by decide) (by decide) (by decide), if_pos (by decide), B_X12_surestOf_89]
          refine take hwc fun b b0 b1 hb => ?_
          rcases hI with ⟨-, a2⟩ | ⟨a1, -⟩
          · exact absurd hb (a2 b b0 b1)
          · omega
        · obtain ⟨a1, a2, a3⟩ : (0 ≤ best ∧ best < c) ∧ WAYP (Y 121) nd f to best ∧ ∀ b : Int, 0 ≤ b → b < c → WAYP (Y 121) nd f to b → pS P 0 b < pS P 0 best ∨ (pS P 0 b = pS P 0 best ∧ (Y 134 best < Y 134 b ∨ (Y 134 best = Y 134 b ∧ best ≤ b))) := by
            rcases hI with ⟨a1, -⟩ | h
            · exact absurd a1 gb
            · exact h
          obtain ⟨t1, t2, -⟩ := h134 best a1.1 (by omega)
          have p1 := TH_r hT (a := 0) (b := c)
          have p2 := TH_r hT (a := 0) (b := best)
          have i0 : inI 0 := inI_s (by decide) (by decide)
          rw [if_pos gb, partsOf_eq hT hB.2.1 i0, cl_some, partsOf_eq hT hB.2.1 i0, cl_some, B_X12_surestOf_57, d2_ok (by omega) (by omega) (by decide) (by decide)]
          by_cases g1 : 0 < pS P 0 c - pS P 0 best
          · rw [if_pos g1, B_X12_surestOf_89]
            refine take hwc fun b b0 b1 hb => ?_
            have := a3 b b0 b1 hb
            omega
          · rw [if_neg g1, d2_ok (by omega) (by omega) (by decide) (by decide)]
            by_cases g2 : pS P 0 c - pS P 0 best = 0
            · rw [if_neg (by simpa using g2), ax_ok c0 (by omega), ax_ok a1.1 (by omega), c2_ok (by omega) (by omega) (by omega) (by omega)]
              by_cases g3 : Y 134 best ≤ Y 134 c
              · rw [if_pos g3]
                exact skip (Or.inr ⟨a1, fun _ => by omega⟩)
              · rw [if_neg g3, B_X12_surestOf_89]
                refine take hwc fun b b0 b1 hb => ?_
                have := a3 b b0 b1 hb
                omega
            · rw [if_pos g2]
              exact skip (Or.inr ⟨a1, fun _ => by omega⟩)
theorem surestOf_eq {cn : Int} {X : Mem} {P : Int → Int} {f to : Int} (hB : BD (X 121)) (hC : CK cn X) (hn : cn ≤ 1000) (hT : TH P (X 121)) (f0 : 0 ≤ f) (f1 : f < X 121 0 * X 121 1) (t0 : 0 ≤ to) (t1 : to < X 121 0 * X 121 1) : ∃ (a : Int) (Y : Mem), f_X12_surestOf f to X = some (a, Y) ∧ (∀ i k : Int, ¬ (i = 120 ∧ 31 ≤ k ∧ k ≤ 34) → i ≠ 132 → i ≠ 133 → i ≠ 134 → Y i k = X i k) ∧ CK cn Y ∧ (∀ a : Int, 0 ≤ a → a < NS (X 121) → FEW (X 121) (ND (X 121)) f to a (Y 134 a)) ∧ ((a = -1 ∧ ∀ b : Int, 0 ≤ b → b < NS (X 121) → ¬ WAYP (X 121) (ND (X 121)) f to b) ∨ SUR (X 121) (ND (X 121)) f to P a (pS P 0 a) (Y 134 a)) := by
  have hN := NS_r hB.2.1
  obtain ⟨Y, e1, e2, e3, e4⟩ := readies_eq hB hC hn f0 f1 t0 t1
  have y121 : Y 121 = X 121 := funext fun k => e2 121 k (by omega) (by decide) (by decide) (by decide)
  unfold f_X12_surestOf
  rw [e1, cl_some]
  obtain ⟨a, i1, i2⟩ := surestOf_11 (Y := Y) (P := P) (nd := ND (X 121)) (f := f) (to := to) (by rw [y121]; exact hB) f0 (by rw [y121]; exact f1) (by rw [y121]; exact hT) (by rw [y121]; exact e3) KF (-1) 0 (by decide) (by rw [y121]; omega) (by rw [KF_eq, y121]; omega) (Or.inl ⟨rfl, fun b x y => by omega⟩)
  rw [y121] at i2
  exact ⟨a, Y, i1, e2, e4, e3, i2⟩
theorem areCells_eq {X : Mem} {f to : Int} (hB : BD (X 121)) (hf : inI f) (ht : inI to) : f_X12_areCells f to X = some (if (0 ≤ f ∧ f < X 121 0 * X 121 1) ∧ (0 ≤ to ∧ to < X 121 0 * X 121 1) then 1 else 0, X) := by
  unfold f_X12_areCells
  rw [c1_ok hf.1 hf.2, isCellm_eq hB (inI_J hf), cl_some]
  by_cases g1 : 0 ≤ f ∧ f < X 121 0 * X 121 1
  · rw [if_pos g1, c1_ok (by decide) (by decide), if_neg (by decide), c1_ok ht.1 ht.2, isCellm_eq hB (inI_J ht), cl_some]
    by_cases g2 : 0 ≤ to ∧ to < X 121 0 * X 121 1
    · rw [if_pos g2, c1_ok (by decide) (by decide), if_neg (by decide), if_pos ⟨g1, g2⟩]
    · rw [if_neg g2, c1_ok (by decide) (by decide), if_pos rfl, if_neg (fun h => g2 h.2)]
  · rw [if_neg g1, c1_ok (by decide) (by decide), if_pos rfl, if_neg (fun h => g1 h.1)]
/-- the class's search for a choice, now -/
theorem choice_no {cn : Int} {X : Mem} (h : REL cn X) {f to : Int} (hf : inI f) (ht : inI to) (hn : ¬ ((0 ≤ f ∧ f < X 121 0 * X 121 1) ∧ (0 ≤ to ∧ to < X 121 0 * X 121 1))) : f_X11_choiceStatus f to X = some (1, X) := by
  obtain ⟨n1, n2, n3, -⟩ := h.now
  unfold f_X11_choiceStatus
  rw [isCell_eq n1 n2 n3 hf, cl_some]
  by_cases g1 : 0 ≤ f ∧ f < X 121 0 * X 121 1
  · rw [if_pos g1, c1_ok (by decide) (by decide), if_neg (by decide), isCell_eq n1 n2 n3 ht, if_neg (fun q => hn ⟨g1, q⟩), cl_some, c1_ok (by decide) (by decide), if_neg (by decide)]
  · rw [if_neg g1, c1_ok (by decide) (by decide), if_pos rfl]
theorem choice_yes {cn : Int} {X : Mem} (h : REL cn X) {f to : Int} (hf : inI f) (ht : inI to) (g1 : 0 ≤ f ∧ f < X 121 0 * X 121 1) (g2 : 0 ≤ to ∧ to < X 121 0 * X 121 1) :
    ∃ Y : Mem, (∀ i k : Int, ¬ SCR i k → Y i k = X i k) ∧ GL (X 121) (ND (X 121)) (X 2 0) Y ∧ Y 42 14 = f ∧ Y 42 15 = to ∧ SRC (X 121) (ND (X 121)) f to (NS (X 121)) Y ∧ (((∃ a : Int, (0 ≤ a ∧ a < NS (X 121)) ∧ WAYP (X 121) (ND (X 121)) f to a) ∧ f_X11_choiceStatus f to X = some (0, Y)) ∨ ((∀ b : Int, 0 ≤ b → b < NS (X 121) → ¬ WAYP (X 121) (ND (X 121)) f to b) ∧ f_X11_choiceStatus f to X = some (6, Y))) := by
  obtain ⟨n1, n2, n3, n4, n5, n6⟩ := h.now
  have hN := NS_r n3.2.1
  obtain ⟨v, Y1, Y2, e1, e2, e3, e4, e5, e6, e7, e8, e9, e10, -⟩ := ground_eq (d := X 2 3) (o := X 2 4) n1 n2 n3 (by rw [n4]; exact n3.2.2.1.1) (by rw [n4]; exact n3.2.2.1.2) (by rw [n5]; exact n3.2.2.2.1.1) (by rw [n5]; exact n3.2.2.2.1.2) g1.1 g1.2 g2.1 g2.2
  have hnd : X 121 5 - X 2 4 - stg (X 121) (X 2 3) = ND (X 121) := by rw [n4, n5]; rfl
  rw [hnd] at e5 e8 e9 e10
  refine ⟨Y2, fun i k hs => ?_, e5, e6, e7, e8, ?_⟩
  · by_cases e : i = 42
    · subst e
      by_cases ek : k = 7
      · subst ek
        exact e4
      · exact absurd (by unfold SCR; omega) hs
    · rw [e3 i e (by unfold SCR at hs; omega) (by unfold SCR at hs; omega) (by unfold SCR at hs; omega)]
  · have run : f_X11_choiceStatus f to X = c1 v (if v = 0 then some (6, Y2) else some (0, Y2)) := by
      unfold f_X11_choiceStatus
      rw [isCell_eq n1 n2 n3 hf, if_pos g1, cl_some, c1_ok (by decide) (by decide), if_neg (by decide), isCell_eq n1 n2 n3 ht, if_pos g2, cl_some, c1_ok (by decide) (by decide), if_pos (by decide), cm_ok n1, e1, cl_some, e2, cl_some]
    by_cases hw : WAYP (X 121) (ND (X 121)) f to (NS (X 121) - 1)
    · refine Or.inl ⟨⟨_, ⟨by omega, by omega⟩, hw⟩, ?_⟩
      rw [run, e9 hw, c1_ok (by decide) (by decide), if_neg (by decide)]
    · refine Or.inr ⟨fun b b0 b1 hb => hw ?_, ?_⟩
      · refine hb.sub n3 g1.1 g1.2 ?_ (sub_all n3.2.1 b0 b1)
        rw [← hnd]
        exact fix_ex n3 (by rw [n4]; exact n3.2.2.1.1) (by rw [n4]; exact n3.2.2.1.2) (by rw [n5]; exact n3.2.2.2.1.1) (by rw [n5]; exact n3.2.2.2.1.2) g2.1 g2.2 (by omega) (by omega)
      · rw [run, e10 hw, c1_ok (by decide) (by decide), if_pos rfl]
