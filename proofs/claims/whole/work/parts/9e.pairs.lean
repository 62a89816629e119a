/-! soonest, length, way -/
theorem ground_eq {X : Mem} {A : Int → Int} {r d o f to : Int} (hr : r ∈ RIV) (hR : RV X r A) (hB : BD A) (d0 : 0 ≤ d) (d1 : d ≤ 5000) (o0 : 0 ≤ o) (o1 : o ≤ A 6) (f0 : 0 ≤ f) (f1 : f < A 0 * A 1) (t0 : 0 ≤ to) (t1 : to < A 0 * A 1) :
    ∃ (v : Int) (Y1 Y2 : Mem), f_X1_look r d o X = some (0, Y1) ∧ f_X1_search f to Y1 = some (v, Y2) ∧ (∀ i : Int, i ≠ 42 → i ≠ 43 → i ≠ 44 → i ≠ 46 → Y2 i = X i) ∧ Y2 42 7 = X 42 7 ∧ GL A (A 5 - o - stg A d) r Y2 ∧ Y2 42 14 = f ∧ Y2 42 15 = to ∧ SRC A (A 5 - o - stg A d) f to (NS A) Y2 ∧ (WAYP A (A 5 - o - stg A d) f to (NS A - 1) → v = 1) ∧ (¬ WAYP A (A 5 - o - stg A d) f to (NS A - 1) → v = 0) ∧ (∀ k : Int, (3 ≤ k ∧ k ≤ 10) → Y2 42 k = X 42 k) := by
  have h6 := hB.2.2.2.2.2.1
  obtain ⟨Y1, e1, e2, e3, e4⟩ := look_eq (d := d) (f := o) hr hR hB ⟨d0, by omega⟩ ⟨o0, by omega⟩
  obtain ⟨v, Y2, i1, i2, ⟨i3, i3'⟩, i4, i5, i6, i7, i8⟩ := search_eq hB e4 f0 f1 t0 t1 (fun a a0 a1 => fix_ex hB d0 d1 o0 o1 t0 t1 a0 a1)
  exact ⟨v, Y1, Y2, e1, i1, fun i a b c d => by rw [i3 i a b c, e2 i a d], by rw [i3' 7 (by decide) (by decide) (by decide), e3 7 (by decide) (by decide) (by decide) (by decide) (by decide) (by decide)], i2, i4, i5, i6, i7, i8, fun k hk => by rw [i3' k (by omega) (by omega) (by omega), e3 k (by omega) (by omega) (by omega) (by omega) (by omega) (by omega)]⟩
theorem few_way {A : Int → Int} {nd f to a v : Int} (hB : BD A) (f0 : 0 ≤ f) (f1 : f < A 0 * A 1) (h : FEW A nd f to a v) : (WAYP A nd f to a → ∀ V : Int → Int → Int, FIX A nd a to V → v = V f 8 ∧ opn A nd a f ∧ V f 8 ≠ FAR ∧ 0 ≤ v ∧ v ≤ 29205) ∧ (¬ WAYP A nd f to a → v = -1) := by
  obtain ⟨W, h1, h2⟩ := h
  have hr := (h1 f f0 f1 8 (by decide) (by decide)).1
  constructor
  · rintro ⟨U, u1, u2, u3⟩ V hV
    have e1 := FIX_u hB hV h1 f0 f1 (show (0 : Int) ≤ 8 by decide) (by decide)
    have e2 := FIX_u hB u1 h1 f0 f1 (show (0 : Int) ≤ 8 by decide) (by decide)
    have hb := V_b hB u1 f0 f1 (show (0 : Int) ≤ 8 by decide) (by decide) u2 u3
    rcases h2 with ⟨g1, g2, g3⟩ | ⟨g1, g2⟩
    · rw [e1]
      exact ⟨g3, u2, by omega, by omega, by omega⟩
    · exact absurd ⟨u2, by omega⟩ g1
  · intro hn
    rcases h2 with ⟨g1, g2, g3⟩ | ⟨g1, g2⟩
    · exact absurd ⟨W, h1, g1, by omega⟩ hn
    · exact g2
/-- the cells of the way kept, and those of the latest search of the reference -/
def WAC (i k : Int) : Prop := (i = 42 ∧ k = 7) ∨ i = 48 ∨ (i = 120 ∧ k = 36) ∨ i = 135
def CKC (i k : Int) : Prop := (i = 120 ∧ 31 ≤ k ∧ k ≤ 34) ∨ i = 134
theorem RZ.fr3 {cn : Int} {X Y : Mem} (h : RZ cn X) (e : ∀ i k : Int, ¬ SCR i k → ¬ ANS i k → ¬ WAC i k → ¬ CKC i k → Y i k = X i k) (hK : RK Y) (hC : CK cn Y) : RZ cn Y := by
  have e0 : ∀ i : Int, (1 ≤ i ∧ i ≤ 34) ∨ i = 36 ∨ i = 41 ∨ i = 58 ∨ (60 ≤ i ∧ i ≤ 119) ∨ (121 ≤ i ∧ i ≤ 126) ∨ i = 130 ∨ i = 138 ∨ i = 139 → Y i = X i := fun i hi => funext fun k => e i k (by unfold SCR; omega) (by unfold ANS; omega) (by unfold WAC; omega) (by unfold CKC; omega)
  have eC : ∀ k : Int, k ≤ 15 ∨ 19 ≤ k → Y 0 k = X 0 k := fun k hk => e 0 k (by unfold SCR; omega) (by unfold ANS; omega) (by unfold WAC; omega) (by unfold CKC; omega)
  have eM : ∀ k : Int, k = 10 ∨ k = 16 ∨ k = 17 ∨ 50 ≤ k → Y 120 k = X 120 k := fun k hk => e 120 k (by unfold SCR; omega) (by unfold ANS; omega) (by unfold WAC; omega) (by unfold CKC; omega)
  have eT : ∀ k : Int, k = 1 ∨ k = 9 ∨ k = 10 → Y 35 k = X 35 k := fun k hk => e 35 k (by unfold SCR; omega) (by unfold ANS; omega) (by unfold WAC; omega) (by unfold CKC; omega)
  obtain ⟨h1, h2, h3, h4, h5, h6, h7, h8, h9, h10, h11, h12, h13⟩ := h
  have hp := h1.r
  have e121 := e0 121 (by omega)
  have e122 := e0 122 (by omega)
  refine ⟨?_, ?_, ?_, ?_, ?_, ?_, ?_, ?_, hK, ?_, ?_, ?_, hC⟩
  · exact h1.fr (eC 3 (by omega)) (eC 4 (by omega)) (by rw [e0 2 (by omega)]) (by rw [e0 2 (by omega)]) (e0 69 (by omega)) (e0 86 (by omega)) (e0 103 (by omega))
  · rw [e121, e122]
    exact h2.fr (e0 2 (by omega)) (fun i a b => e0 i (by omega)) (fun i a b => e0 i (by omega)) (e0 18 (by omega))
  · rw [e121]
    exact h3
  · rw [eC 3 (by omega)]
    exact h4.fr (fun i a b => e0 i (by omega))
  · exact RM.fr h1 h5 (eC 15 (by omega)) (eM 53 (by omega)) (fun k _ => by rw [e121]) (fun k _ => by rw [e122]) (fun i a b => e0 i (by omega))
  · exact h6.fr (fun i hi => e0 i (by omega))
  · exact h7.fr (eT 1 (by omega)) (eM 10 (by omega)) (e0 36 (by omega)) (e0 126 (by omega))
  · exact h8.fr (eT 9 (by omega)) (eM 16 (by omega)) (eT 10 (by omega)) (eM 17 (by omega))
  · exact h10.fr (eC 14 (by omega)) (eM 52 (by omega)) (e0 60 (by omega)) (e0 139 (by omega))
  · exact h11.fr (e0 41 (by omega)) (e0 130 (by omega))
  · exact h12.fr (e0 58 (by omega)) (e0 138 (by omega))
theorem RK.of {A : Int → Int} {nd a f to m : Int} {V : Int → Int → Int} {Y : Mem} {kc hd : Int → Int} (hB : BD A) (hW : WLK A nd a f to V m kc hd) (e1 : Y 42 7 = m) (e2 : Y 120 36 = m) (e3 : ∀ i : Int, 0 ≤ i → i < m → Y 48 i = kc i) (e4 : ∀ i : Int, 0 ≤ i → i < m → Y 135 i = kc i) : RK Y := by
  have hcl := BD_cells hB
  obtain ⟨⟨n0, n1⟩, -, -, -, -, hr⟩ := hW
  refine ⟨⟨by omega, by omega, by omega⟩, fun k k0 k1 => ?_⟩
  have := hr k k0 (by omega)
  rw [e3 k k0 (by omega), e4 k k0 (by omega)]
  exact ⟨⟨by omega, by omega⟩, rfl⟩
/-- status 1 or another, told by both after scratch work of the class -/
theorem out_scr {cn : Int} {a b : Mem → Option (Int × Mem)} {X Y : Mem} (h : REL cn X) (hY : ∀ i k : Int, ¬ SCR i k → Y i k = X i k) {r v : Int} (h0 : 0 ≤ v) (h1 : v ≤ 100) (hr : inI r) (ea : a X = some (r, ms Y 0 16 v)) (eb : ∃ Z : Mem, b (ms Y 0 16 v) = some (r, ms Z 120 2 v) ∧ (∀ i k : Int, ¬ SCR i k → ¬ CKC i k → Z i k = ms Y 0 16 v i k) ∧ CK cn Z) : OUT cn a b X := by
  obtain ⟨Z, eb, hZ, hC⟩ := eb
  refine ⟨r, _, _, ea, eb, hr, ?_, RZ.up (h.2.fr3 (fun i k s1 s2 s3 s4 => ?_) ?_ ?_)⟩
  · have e0 : ∀ k : Int, ms Z 120 2 v 0 k = ms X 0 16 v 0 k := fun k => by
      rw [ms_ne (by decide), hZ 0 k (by unfold SCR; omega) (by unfold CKC; omega), ms_at, ms_at, hY 0 k (by unfold SCR; omega)]
    have e1 : ∀ k : Int, k = 2 ∨ k = 3 ∨ k = 4 → ms Z 120 2 v 120 k = ms X 120 2 v 120 k := fun k hk => by
      rw [ms_at, ms_at, hZ 120 k (by unfold SCR; omega) (by unfold CKC; omega), ms_ne (by decide), hY 120 k (by unfold SCR; omega)]
    have := h.1.st h0 h1
    unfold RS at this ⊢
    rw [e0, e0, e0, e1 2 (by omega), e1 3 (by omega), e1 4 (by omega)]
    rw [ms_ne (i := 120) (j := 0) (by decide), ms_at (X := ms X 0 16 v), ms_at (X := ms X 0 16 v), ms_at (X := ms X 0 16 v), ms_ne (i := 0) (j := 120) (by decide)] at this
    rw [ms_at (j := 120) (l := 2), ms_at (j := 120) (l := 3), ms_at (j := 120) (l := 4)]
    exact this
  · rw [ms_at, if_neg (by unfold ANS at s2; omega), hZ i k s1 s4, ms_at, if_neg (by unfold ANS at s2; omega), hY i k s1]
  · have := h.2.2.2.2.2.2.2.2.2.1
    refine this.fr ?_ ?_ ?_ ?_
    · rw [ms_ne (by decide), hZ 42 7 (by unfold SCR; omega) (by unfold CKC; omega), ms_ne (by decide), hY 42 7 (by unfold SCR; omega)]
    · rw [ms_k (by decide), hZ 120 36 (by unfold SCR; omega) (by unfold CKC; omega), ms_ne (by decide), hY 120 36 (by unfold SCR; omega)]
    · funext k
      rw [ms_ne (by decide), hZ 48 k (by unfold SCR; omega) (by unfold CKC; omega), ms_ne (by decide), hY 48 k (by unfold SCR; omega)]
    · funext k
      rw [ms_ne (by decide), hZ 135 k (by unfold SCR; omega) (by unfold CKC; omega), ms_ne (by decide), hY 135 k (by unfold SCR; omega)]
  · have h121 : ms Z 120 2 v 121 = X 121 := funext fun k => by
      rw [ms_ne (by decide), hZ 121 k (by unfold SCR; omega) (by unfold CKC; omega), ms_ne (by decide), hY 121 k (by unfold SCR; omega)]
    have hz121 : Z 121 = X 121 := funext fun k => by
      rw [hZ 121 k (by unfold SCR; omega) (by unfold CKC; omega), ms_ne (by decide), hY 121 k (by unfold SCR; omega)]
    refine CK.fr (by rw [hz121]; exact h.now.2.2.1) hC ?_ ?_ ?_ ?_ ?_ ?_ ?_
    · rw [ms_k (by decide)]
    · rw [ms_k (by decide)]
    · rw [ms_k (by decide)]
    · rw [ms_k (by decide)]
    · rw [ms_k (by decide)]
    · rw [ms_ne (by decide)]
    · rw [h121, hz121]
      exact fun _ _ => rfl
/-- the reference's rows of the now, in a memory that only scratch work changed -/
theorem REL.scr {cn : Int} {X Y : Mem} (h : REL cn X) (hY : ∀ i k : Int, ¬ SCR i k → ¬ ANS i k → Y i k = X i k) : BD (Y 121) ∧ Y 121 = X 121 ∧ CK cn Y := by
  have e : Y 121 = X 121 := funext fun k => hY 121 k (by unfold SCR; omega) (by unfold ANS; omega)
  exact ⟨by rw [e]; exact h.now.2.2.1, e, (h.2.fr hY).2.2.2.2.2.2.2.2.2.2.2.2⟩
theorem q_soonest : pair_28 REL := by
  intro f to a hf ht ha cn X hcn h
  obtain ⟨n1, n2, n3, n4, n5, n6⟩ := h.now
  have hcl := BD_cells n3
  have hN := NS_r n3.2.1
  show OUT cn (f_X11_soonest f to a) (f_X12_soonest f to a) X
  have eM : ∀ v : Int, ms X 0 16 v 121 = X 121 := fun v => s16 (by decide)
  by_cases g1 : 0 ≤ f ∧ f < X 121 0 * X 121 1
  · by_cases g2 : 0 ≤ to ∧ to < X 121 0 * X 121 1
    · by_cases g3 : 0 ≤ a ∧ a < NS (X 121)
      · obtain ⟨v, Y1, Y2, e1, e2, e3, e4, e5, e6, e7, e8, e9, e10, -⟩ := ground_eq (d := X 2 3) (o := X 2 4) n1 n2 n3 (by rw [n4]; exact n3.2.2.1.1) (by rw [n4]; exact n3.2.2.1.2) (by rw [n5]; exact n3.2.2.2.1.1) (by rw [n5]; exact n3.2.2.2.1.2) g1.1 g1.2 g2.1 g2.2
        have hnd : X 121 5 - X 2 4 - stg (X 121) (X 2 3) = ND (X 121) := by rw [n4, n5]; rfl
        rw [hnd] at e5 e8 e9 e10
        have hsc : ∀ i k : Int, ¬ SCR i k → Y2 i k = X i k := fun i k hs => by
          by_cases e : i = 42
          · subst e
            by_cases ek : k = 7
            · subst ek
              exact e4
            · exact absurd (by unfold SCR; omega) hs
          · rw [e3 i e (by unfold SCR at hs; omega) (by unfold SCR at hs; omega) (by unfold SCR at hs; omega)]
        obtain ⟨s1, -⟩ := e8
        have hs := s1 a g3.1 g3.2
        by_cases hw : WAYP (X 121) (ND (X 121)) f to a
        · obtain ⟨V, v1, v2, v3⟩ := id hw
          obtain ⟨Y3, m, hd, k1, k2, k3, k4, k5⟩ := keepWay_eq n3 e5 v1 g1.1 g1.2 g2.1 g2.2 v2 v3 e6 e7
          have hY3 : ∀ i k : Int, ¬ SCR i k → ¬ WAC i k → Y3 i k = X i k := fun i k q1 q2 => by
            by_cases e : i = 42
            · subst e
              exact absurd (by unfold WAC SCR at *; omega) q1
            · rw [k2 i e (by unfold SCR at q1; omega) (by unfold WAC at q2; omega)]
              exact hsc i k q1
          have hX1 : ∀ i k : Int, ¬ SCR i k → ¬ ANS i k → ¬ WAC i k → ms Y3 0 16 0 i k = X i k := fun i k q1 q2 q3 => by
            rw [ms_at, if_neg (by unfold ANS at q2; omega)]
            exact hY3 i k q1 q3
          have x121 : ms Y3 0 16 0 121 = X 121 := funext fun k => hX1 121 k (by unfold SCR; omega) (by unfold ANS; omega) (by unfold WAC; omega)
          have hCK : CK cn (ms Y3 0 16 0) := by
            refine CK.fr n3 h.2.2.2.2.2.2.2.2.2.2.2.2.2 ?_ ?_ ?_ ?_ ?_ ?_ ?_
            · exact hX1 _ _ (by unfold SCR; omega) (by unfold ANS; omega) (by unfold WAC; omega)
            · exact hX1 _ _ (by unfold SCR; omega) (by unfold ANS; omega) (by unfold WAC; omega)
            · exact hX1 _ _ (by unfold SCR; omega) (by unfold ANS; omega) (by unfold WAC; omega)
            · exact hX1 _ _ (by unfold SCR; omega) (by unfold ANS; omega) (by unfold WAC; omega)
            · exact hX1 _ _ (by unfold SCR; omega) (by unfold ANS; omega) (by unfold WAC; omega)
            · exact funext fun k => hX1 _ _ (by unfold SCR; omega) (by unfold ANS; omega) (by unfold WAC; omega)
            · rw [x121]
              exact fun _ _ => rfl
          obtain ⟨Y4, r1, r2, r3, r4⟩ := readies_eq (by rw [x121]; exact n3) hCK (by omega) g1.1 (by rw [x121]; exact g1.2) g2.1 (by rw [x121]; exact g2.2)
          have y4121 : Y4 121 = X 121 := by rw [← x121]; exact funext fun k => r2 121 k (by omega) (by decide) (by decide) (by decide)
          rw [x121] at r3
          obtain ⟨w1, w2⟩ := few_way n3 g1.1 g1.2 (r3 a g3.1 g3.2)
          obtain ⟨w3, w4, w5, w6, w7⟩ := w1 hw V v1
          obtain ⟨Y5, p1, p2, p3, p4, p5⟩ := walks_eq (X := Y4) (f := f) (a := a) (by rw [y4121]; exact n3) ha g2.1 (by rw [y4121]; exact g2.2) (by rw [y4121]; exact v1) (by rw [y4121]; exact k5)
          have y5134 : Y5 134 = Y4 134 := p2 134 (by decide) (by decide) (by decide) (by decide)
          have hY5 : ∀ i k : Int, ¬ SCR i k → ¬ ANS i k → ¬ WAC i k → ¬ CKC i k → Y5 i k = X i k := fun i k q1 q2 q3 q4 => by
            rw [← hX1 i k q1 q2 q3, ← r2 i k (by unfold CKC at q4; omega) (by unfold SCR at q1; omega) (by unfold SCR at q1; omega) (by unfold CKC at q4; omega)]
            by_cases e : i = 120
            · subst e
              exact p3 k (by unfold WAC at q3; omega)
            · rw [p2 i e (by unfold SCR at q1; omega) (by unfold SCR at q1; omega) (by unfold WAC at q3; omega)]
          refine ⟨V f 8, ms Y3 0 16 0, ms Y5 120 2 0, ?_, ?_, inI_s (by omega) (by omega), ?_, RZ.up (h.2.fr3 (fun i k q1 q2 q3 q4 => ?_) ?_ ?_)⟩
          · unfold f_X11_soonest
            rw [isCell_eq n1 n2 n3 hf, if_pos g1, cl_some, c1_ok (by decide) (by decide), if_neg (by decide), isCell_eq n1 n2 n3 ht, if_pos g2, cl_some, c1_ok (by decide) (by decide), if_neg (by decide), isSet_eq n1 n2 n3 ha, if_pos g3, cl_some, c1_ok (by decide) (by decide), if_pos (by decide), cm_ok n1, e1, cl_some, e2, cl_some, ax_ok g3.1 (by omega), hs.1 hw, c1_ok (by decide) (by decide), if_pos (by decide), k1, cl_some, answer_eq, cl_some]
          · unfold f_X12_soonest
            rw [c1_ok hf.1 hf.2, isCellm_eq (by rw [x121]; exact n3) (inI_J hf), x121, if_pos g1, cl_some, c1_ok (by decide) (by decide), if_neg (by decide), c1_ok ht.1 ht.2, isCellm_eq (by rw [x121]; exact n3) (inI_J ht), x121, if_pos g2, cl_some, c1_ok (by decide) (by decide), if_neg (by decide), isSetm_eq (by rw [x121]; exact n3) ha, x121, if_pos g3, cl_some, c1_ok (by decide) (by decide), if_pos (by decide), r1, cl_some, ax_ok g3.1 (by omega), c2_ok (by omega) (by omega) (by decide) (by decide), if_pos (by omega), p1, cl_some, ax_ok g3.1 (by omega), gives_eq, cl_some, y5134, w3]
          · have hst := h.1.st (v := 0) (by decide) (by decide)
            refine hst.fr fun i k hA => ?_
            unfold ANS at hA
            rw [ms_at, ms_at (i := 120)]
            by_cases e : i = 120 ∧ k = 2
            · rw [if_pos e, if_pos e]
            · rw [if_neg e, if_neg e]
              by_cases e0 : i = 120
              · subst e0
                rw [p3 k (by omega), r2 120 k (by omega) (by decide) (by decide) (by decide), ms_ne (by decide), ms_ne (by decide)]
                exact hY3 120 k (by unfold SCR; omega) (by unfold WAC; omega)
              · have i0 : i = 0 := by omega
                subst i0
                rw [p2 0 (by decide) (by decide) (by decide) (by decide), r2 0 k (by omega) (by decide) (by decide) (by decide), ms_at, ms_at]
                by_cases e1 : (0 : Int) = 0 ∧ k = 16
                · rw [if_pos e1, if_pos e1]
                · rw [if_neg e1, if_neg e1]
                  exact hY3 0 k (by unfold SCR; omega) (by unfold WAC; omega)
          · rw [ms_at, if_neg (by unfold ANS at q2; omega)]
            exact hY5 i k q1 q2 q3 q4
          · refine RK.of n3 k5 ?_ ?_ (fun i i0 i1 => ?_) (fun i i0 i1 => ?_)
            · rw [ms_ne (by decide), p2 42 (by decide) (by decide) (by decide) (by decide), r2 42 7 (by omega) (by decide) (by decide) (by decide), ms_ne (by decide), k4]
            · rw [ms_k (by decide), p4]
            · rw [ms_ne (by decide), p2 48 (by decide) (by decide) (by decide) (by decide), r2 48 i (by omega) (by decide) (by decide) (by decide), ms_ne (by decide)]
            · rw [ms_ne (by decide), p5 i i0 i1]
          · refine CK.fr (by rw [y4121]; exact n3) r4 ?_ ?_ ?_ ?_ ?_ ?_ ?_
            · rw [ms_k (by decide), p3 _ (by decide)]
            · rw [ms_k (by decide), p3 _ (by decide)]
            · rw [ms_k (by decide), p3 _ (by decide)]
            · rw [ms_k (by decide), p3 _ (by decide)]
            · rw [ms_k (by decide), p3 _ (by decide)]
            · rw [ms_ne (by decide), y5134]
            · rw [ms_ne (by decide), p2 121 (by decide) (by decide) (by decide) (by decide)]
              exact fun _ _ => rfl
        · obtain ⟨b1, b2, b3⟩ := h.scr (Y := ms Y2 0 16 6) (fun i k q1 q2 => by rw [ms_at, if_neg (by unfold ANS at q2; omega)]; exact hsc i k q1)
          refine out_scr h hsc (r := -1) (v := 6) (by decide) (by decide) inI_m1 ?_ ?_
          · unfold f_X11_soonest
            rw [isCell_eq n1 n2 n3 hf, if_pos g1, cl_some, c1_ok (by decide) (by decide), if_neg (by decide), isCell_eq n1 n2 n3 ht, if_pos g2, cl_some, c1_ok (by decide) (by decide), if_neg (by decide), isSet_eq n1 n2 n3 ha, if_pos g3, cl_some, c1_ok (by decide) (by decide), if_pos (by decide), cm_ok n1, e1, cl_some, e2, cl_some, ax_ok g3.1 (by omega), hs.2 hw, c1_ok (by decide) (by decide), if_neg (by decide), fail_eq, cl_some]
          · obtain ⟨Y4, r1, r2, r3, r4⟩ := readies_eq b1 b3 (by omega) g1.1 (by rw [b2]; exact g1.2) g2.1 (by rw [b2]; exact g2.2)
            rw [b2] at r3
            have w2 := (few_way n3 g1.1 g1.2 (r3 a g3.1 g3.2)).2 hw
            refine ⟨Y4, ?_, fun i k q1 q4 => r2 i k (by unfold CKC at q4; omega) (by unfold SCR at q1; omega) (by unfold SCR at q1; omega) (by unfold CKC at q4; omega), r4⟩
            unfold f_X12_soonest
            rw [c1_ok hf.1 hf.2, isCellm_eq b1 (inI_J hf), b2, if_pos g1, cl_some, c1_ok (by decide) (by decide), if_neg (by decide), c1_ok ht.1 ht.2, isCellm_eq b1 (inI_J ht), b2, if_pos g2, cl_some, c1_ok (by decide) (by decide), if_neg (by decide), isSetm_eq b1 ha, b2, if_pos g3, cl_some, c1_ok (by decide) (by decide), if_pos (by decide), r1, cl_some, ax_ok g3.1 (by omega), w2, c2_ok (by decide) (by decide) (by decide) (by decide), if_neg (by decide), refusem_eq, cl_some]
      · refine out_st h (r := -1) (v := 1) (by decide) (by decide) inI_m1 ?_ ?_
        · unfold f_X11_soonest
          rw [isCell_eq n1 n2 n3 hf, if_pos g1, cl_some, c1_ok (by decide) (by decide), if_neg (by decide), isCell_eq n1 n2 n3 ht, if_pos g2, cl_some, c1_ok (by decide) (by decide), if_neg (by decide), isSet_eq n1 n2 n3 ha, if_neg g3, cl_some, c1_ok (by decide) (by decide), if_neg (by decide), B_X11_soonest_24, fail_eq, cl_some]
        · unfold f_X12_soonest
          rw [c1_ok hf.1 hf.2, isCellm_eq (by rw [eM]; exact n3) (inI_J hf), eM, if_pos g1, cl_some, c1_ok (by decide) (by decide), if_neg (by decide), c1_ok ht.1 ht.2, isCellm_eq (by rw [eM]; exact n3) (inI_J ht), eM, if_pos g2, cl_some, c1_ok (by decide) (by decide), if_neg (by decide), isSetm_eq (by rw [eM]; exact n3) ha, eM, if_neg g3, cl_some, c1_ok (by decide) (by decide), if_neg (by decide), B_X12_soonest_26, refusem_eq, cl_some]
    · refine out_st h (r := -1) (v := 1) (by decide) (by decide) inI_m1 ?_ ?_
      · unfold f_X11_soonest
        rw [isCell_eq n1 n2 n3 hf, if_pos g1, cl_some, c1_ok (by decide) (by decide), if_neg (by decide), isCell_eq n1 n2 n3 ht, if_neg g2, cl_some, c1_ok (by decide) (by decide), if_pos rfl, B_X11_soonest_24, fail_eq, cl_some]
      · unfold f_X12_soonest
        rw [c1_ok hf.1 hf.2, isCellm_eq (by rw [eM]; exact n3) (inI_J hf), eM, if_pos g1, cl_some, c1_ok (by decide) (by decide), if_neg (by decide), c1_ok ht.1 ht.2, isCellm_eq (by rw [eM]; exact n3) (inI_J ht), eM, if_neg g2, cl_some, c1_ok (by decide) (by decide), if_pos rfl, B_X12_soonest_26, refusem_eq, cl_some]
  · refine out_st h (r := -1) (v := 1) (by decide) (by decide) inI_m1 ?_ ?_
    · unfold f_X11_soonest
      rw [isCell_eq n1 n2 n3 hf, if_neg g1, cl_some, c1_ok (by decide) (by decide), if_pos rfl, B_X11_soonest_24, fail_eq, cl_some]
    · unfold f_X12_soonest
      rw [c1_ok hf.1 hf.2, isCellm_eq (by rw [eM]; exact n3) (inI_J hf), eM, if_neg g1, cl_some, c1_ok (by decide) (by decide), if_pos rfl, B_X12_soonest_26, refusem_eq, cl_some]
theorem q_length : pair_31 REL := by
  intro cn X hcn h
  obtain ⟨⟨k0, k1, k2⟩, k3⟩ := h.2.2.2.2.2.2.2.2.2.1
  have e : ∀ v : Int, ms X 0 16 v 120 = X 120 := fun v => s16 (by decide)
  by_cases g : X 42 7 = 0
  · refine out_st h (r := -1) (v := 6) (by decide) (by decide) inI_m1 ?_ ?_
    · unfold f_X11_length
      rw [c1_ok (by omega) (by omega), if_neg (by simpa using g), fail_eq, cl_some]
    · unfold f_X12_length
      rw [e, k2, c1_ok (by omega) (by omega), if_neg (by simpa using g), refusem_eq, cl_some]
  · refine out_st h (r := X 42 7) (v := 0) (by decide) (by decide) (inI_s (by omega) (by omega)) ?_ ?_
    · unfold f_X11_length
      rw [c1_ok (by omega) (by omega), if_pos g, answer_eq, cl_some]
    · unfold f_X12_length
      rw [e, k2, c1_ok (by omega) (by omega), if_pos g, gives_eq, cl_some]
theorem q_way : pair_32 REL := by
  intro p hp cn X hcn h
  obtain ⟨⟨k0, k1, k2⟩, k3⟩ := h.2.2.2.2.2.2.2.2.2.1
  have e : ∀ v : Int, ms X 0 16 v 120 = X 120 := fun v => s16 (by decide)
  by_cases g : 0 ≤ p ∧ p < X 42 7
  · obtain ⟨k4, k5⟩ := k3 p g.1 g.2
    refine out_st h (r := X 48 p) (v := 0) (by decide) (by decide) k4 ?_ ?_
    · unfold f_X11_way
      rw [c1_ok hp.1 hp.2, if_neg (by omega), c2_ok hp.1 hp.2 (by omega) (by omega), if_pos g.2, ax_ok g.1 (by omega), answer_eq, cl_some]
    · unfold f_X12_way
      rw [e, k2, c1_ok hp.1 hp.2, if_neg (by omega), c2_ok hp.1 hp.2 (by omega) (by omega), if_pos g.2, ax_ok g.1 (by omega), s16 (by decide), k5, gives_eq, cl_some]
  · refine out_st h (r := -1) (v := 6) (by decide) (by decide) inI_m1 ?_ ?_
    · unfold f_X11_way B_X11_way_15
      rw [c1_ok hp.1 hp.2, c2_ok hp.1 hp.2 (by omega) (by omega), fail_eq, cl_some]
      by_cases g2 : p < 0
      · rw [if_pos g2]
      · rw [if_neg g2, if_neg (by omega)]
    · unfold f_X12_way B_X12_way_12
      rw [e, k2, c1_ok hp.1 hp.2, c2_ok hp.1 hp.2 (by omega) (by omega), refusem_eq, cl_some]
      by_cases g2 : p < 0
      · rw [if_pos g2]
      · rw [if_neg g2, if_neg (by omega)]
