/-! pour -/
theorem mc_off {X : Mem} {i sp j dp n q : Int} (h : q ≠ j) : mc X i sp j dp n q = X q := ma_ne h
theorem mc_on {X : Mem} {i sp j dp n q : Int} : mc X i sp j dp n j q = if dp ≤ q ∧ q < dp + n then X i (sp + (q - dp)) else X j q := by
  unfold mc
  rw [ma_same]
def mvF (f : Int → Int) (s d a b : Int) : Int → Int := fun q => if d + a ≤ q ∧ q < d + b then f (s + (q - d)) else f q
theorem pour_118 {x1 x2 x3 x4 n : Int} (a1 : 0 ≤ x1 ∧ x1 < 4) (a2 : 0 ≤ x2) (a3 : 0 ≤ x3 ∧ x3 < 4) (a4 : 0 ≤ x4) (h0 : 0 ≤ n) (h2 : x2 + n ≤ 60) (h4 : x4 + n ≤ 60) (f : Int → Int) : ∀ (k : Nat) (j : Int) (X : Mem), 0 ≤ j → j ≤ n → (n - j).toNat < k →
    X 125 = (if x4 ≤ x2 then mvF f (60 * x1 + x2) (60 * x3 + x4) 0 j else mvF f (60 * x1 + x2) (60 * x3 + x4) (n - j) n) → L_X12_pour_118 k x1 x2 x3 x4 n j X = some (1, ms (ma X 125 (mvF f (60 * x1 + x2) (60 * x3 + x4) 0 n)) 120 2 0) := by
  intro k
  induction k with
  | zero => intro j X _ _ h; omega
  | succ k ih =>
    intro j X hj hn hk hX
    rw [L_X12_pour_118, c2_ok (by omega) (by omega) (by omega) (by omega)]
    by_cases h : n ≤ j
    · rw [if_pos h]
      have e0 : j = n := by omega
      subst e0
      have e : X 125 = mvF f (60 * x1 + x2) (60 * x3 + x4) 0 j := by
        rw [hX, Int.sub_self]
        split <;> rfl
      unfold B_X12_pour_180
      rw [is_eq (by decide) (by decide), if_pos rfl, cl_some, cz_1, ← e, ma_self]
    · rw [if_neg h, c2_ok (by omega) (by omega) (by omega) (by omega)]
      by_cases hd : x4 ≤ x2
      · rw [if_pos hd, B_X12_pour_143, ax_ok (by omega) (by omega), ax_ok (by omega) (by omega), bd_eq]
        rw [if_pos hd] at hX
        have hX' : (ms X 125 (60 * x3 + x4 + j) (X 125 (60 * x1 + x2 + j))) 125 = (if x4 ≤ x2 then mvF f (60 * x1 + x2) (60 * x3 + x4) 0 (j + 1) else mvF f (60 * x1 + x2) (60 * x3 + x4) (n - (j + 1)) n) := by
          rw [if_pos hd, ms_ma, ma_same, hX]
          funext q
          unfold up mvF
          by_cases hq : q = 60 * x3 + x4 + j
          · rw [if_pos hq, if_neg (by omega), if_pos (by omega)]
            congr 1
            omega
          · rw [if_neg hq]
            by_cases hq2 : 60 * x3 + x4 + 0 ≤ q ∧ q < 60 * x3 + x4 + j
            · rw [if_pos hq2, if_pos (by omega)]
            · rw [if_neg hq2, if_neg (by omega)]
        rw [ih (j + 1) _ (by omega) (by omega) (by omega) hX', ms_ma (i := 125), ma_ma]
      · rw [if_neg hd, B_X12_pour_143, ax_ok (by omega) (by omega), ax_ok (by omega) (by omega), bd_eq]
        rw [if_neg hd] at hX
        have hX' : (ms X 125 (60 * x3 + x4 + (n - 1 - j)) (X 125 (60 * x1 + x2 + (n - 1 - j)))) 125 = (if x4 ≤ x2 then mvF f (60 * x1 + x2) (60 * x3 + x4) 0 (j + 1) else mvF f (60 * x1 + x2) (60 * x3 + x4) (n - (j + 1)) n) := by
          rw [if_neg hd, ms_ma, ma_same, hX]
          funext q
          unfold up mvF
          by_cases hq : q = 60 * x3 + x4 + (n - 1 - j)
          · rw [if_pos hq, if_neg (by omega), if_pos (by omega)]
            congr 1
            omega
          · rw [if_neg hq]
            by_cases hq2 : 60 * x3 + x4 + (n - j) ≤ q ∧ q < 60 * x3 + x4 + n
            · rw [if_pos hq2, if_pos (by omega)]
            · rw [if_neg hq2, if_neg (by omega)]
        rw [ih (j + 1) _ (by omega) (by omega) (by omega) hX', ms_ma (i := 125), ma_ma]
theorem holds_eq {r p n : Int} {X : Mem} (hp : inI p) (hp0 : 0 ≤ p) (hn : inI n) (h0 : 0 ≤ X r 2) (h1 : X r 2 ≤ 60) : f_X10_holds r p n X = some (if n ≤ X r 2 - p ∧ p ≤ X r 2 then 1 else 0, X) := by
  have a1 := hp.2
  unfold f_X10_holds
  rw [c2_ok hp.1 hp.2 (by omega) (by omega)]
  by_cases h : X r 2 < p
  · rw [if_pos h, if_neg (by omega)]
  · rw [if_neg h, c2_ok hn.1 hn.2 (by omega) (by omega)]
    by_cases h2 : X r 2 - p < n
    · rw [if_pos h2, if_neg (by omega)]
    · rw [if_neg h2, if_pos (by omega)]
theorem pr_pour {a b c d n : Int} (ha : inI a) (hb : inI b) (hc : inI c) (hd : inI d) (hn : inI n) : Pr (f_X11_pour a b c d n) (f_X12_pour a b c d n) 0 1 := by
  intro X hS hT
  have hTL : ((TRA.length : Nat) : Int) = 4 := rfl
  by_cases h1 : 0 ≤ a ∧ a < 4
  rotate_left
  · exact pr_refuse (v := 1) (by decide) (by decide) hS hT (by unfold f_X11_pour; rw [isTray_eq ha, cl_some, if_neg h1, c1_ok (by decide) (by decide), if_pos rfl]; rfl) (fun Y _ => by unfold f_X12_pour; rw [isTray_eqm ha, cl_some, if_neg h1, c1_ok (by decide) (by decide), if_pos rfl]; rfl)
  by_cases h3 : 0 ≤ c ∧ c < 4
  rotate_left
  · exact pr_refuse (v := 1) (by decide) (by decide) hS hT (by unfold f_X11_pour; rw [isTray_eq ha, cl_some, if_pos h1, c1_ok (by decide) (by decide), if_neg (by decide), isTray_eq hc, cl_some, if_neg h3, c1_ok (by decide) (by decide), if_pos rfl]; rfl) (fun Y _ => by unfold f_X12_pour; rw [isTray_eqm ha, cl_some, if_pos h1, c1_ok (by decide) (by decide), if_neg (by decide), isTray_eqm hc, cl_some, if_neg h3, c1_ok (by decide) (by decide), if_pos rfl]; rfl)
  obtain ⟨q1, q2⟩ := TRA_at h1.1 h1.2
  obtain ⟨q3, q4⟩ := TRA_at h3.1 h3.2
  have hra := hT a h1.1 h1.2
  have hrc := hT c h3.1 h3.2
  have hI1 : inI (X (61 + 2 * a) 1) := by rcases hra with h | h <;> constructor <;> omega
  have hI3 : inI (X (61 + 2 * c) 1) := by rcases hrc with h | h <;> constructor <;> omega
  -- both begin alike
  have eA : f_X11_pour a b c d n X = if 0 ≤ b ∧ 0 ≤ d ∧ 0 ≤ n then (if X (61 + 2 * a) 1 = -1 then B_X11_pour_66 X else if X (61 + 2 * c) 1 = -1 then B_X11_pour_66 X else if X (61 + 2 * a) 1 = X (61 + 2 * c) 1 then
      (cl (f_X10_holds (61 + 2 * a) b n X) fun r15 X16 => c1 r15 <| if r15 = 0 then B_X11_pour_115 X16 else cl (f_X10_holds (61 + 2 * c) d n X16) fun r19 X20 => c1 r19 <| if ¬ r19 = 0 then cpk 60 60 b d n <| bd (mc X20 (61 + 2 * a + 1) b (61 + 2 * c + 1) d n) fun X21 => cl (f_X11_agree X21) fun r22 X23 => cz r22 (some (r22, X23)) else B_X11_pour_115 X20)
      else (cl (f_X11_refuse 8 X) fun r24 X25 => cz r24 (some (r24, X25)))) else B_X11_pour_28 X := by
    unfold f_X11_pour
    rw [isTray_eq ha, cl_some, if_pos h1, c1_ok (by decide) (by decide), if_neg (by decide), isTray_eq hc, cl_some, if_pos h3, c1_ok (by decide) (by decide), if_neg (by decide), c1_ok hb.1 hb.2, c1_ok hd.1 hd.2, c1_ok hn.1 hn.2]
    by_cases g1 : b < 0
    · rw [if_pos g1, if_neg (by omega)]
    · rw [if_neg g1]
      by_cases g2 : d < 0
      · rw [if_pos g2, if_neg (by omega)]
      · rw [if_neg g2]
        by_cases g3 : 0 ≤ n
        · rw [if_pos g3, if_pos (show 0 ≤ b ∧ 0 ≤ d ∧ 0 ≤ n from ⟨by omega, by omega, g3⟩), ax_ok h1.1 (by rw [hTL]; exact h1.2), q1, cm_ok q2, ax_ok h3.1 (by rw [hTL]; exact h3.2), q3, cm_ok q4, isMissing_eq hI1, cl_some]
          by_cases m1 : X (61 + 2 * a) 1 = -1
          · rw [if_pos m1, if_pos m1, c1_ok (by decide) (by decide), if_pos (by decide)]
          · rw [if_neg m1, if_neg m1, c1_ok (by decide) (by decide), if_neg (by decide), isMissing_eq hI3, cl_some]
            by_cases m2 : X (61 + 2 * c) 1 = -1
            · rw [if_pos m2, if_pos m2, c1_ok (by decide) (by decide), if_neg (by decide)]
            · rw [if_neg m2, if_neg m2, c1_ok (by decide) (by decide), if_pos rfl, c2_ok hI1.1 hI1.2 hI3.1 hI3.2]
        · rw [if_neg g3, if_neg (by omega)]
  have eB : ∀ Y : Mem, Y 123 = X 123 → Y 124 = X 124 → f_X12_pour a b c d n Y = if 0 ≤ b ∧ 0 ≤ d ∧ 0 ≤ n then (if X 124 a = -1 then B_X12_pour_54 Y else if X 124 c = -1 then B_X12_pour_54 Y else if X 123 a = X 123 c then
      (if X 124 a - b < n then B_X12_pour_109 Y else if n ≤ X 124 c - d then L_X12_pour_118 KF a b c d n 0 Y else B_X12_pour_109 Y)
      else (cl (f_X12_is 8 Y) fun r14 X15 => cz r14 (some (r14, X15)))) else B_X12_pour_28 Y := by
    intro Y y3 y4
    have hb1 := hb.2
    have hd1 := hd.2
    unfold f_X12_pour
    rw [isTray_eqm ha, cl_some, if_pos h1, c1_ok (by decide) (by decide), if_neg (by decide), isTray_eqm hc, cl_some, if_pos h3, c1_ok (by decide) (by decide), if_neg (by decide), c1_ok hb.1 hb.2, c1_ok hd.1 hd.2, c1_ok hn.1 hn.2]
    by_cases g1 : b < 0
    · rw [if_pos g1, if_neg (by omega)]
    · rw [if_neg g1]
      by_cases g2 : d < 0
      · rw [if_pos g2, if_neg (by omega)]
      · rw [if_neg g2]
        by_cases g3 : 0 ≤ n
        · rw [if_pos g3, if_pos (show 0 ≤ b ∧ 0 ≤ d ∧ 0 ≤ n from ⟨by omega, by omega, g3⟩), ax_ok h1.1 h1.2, y4]
          have j1 : -1 ≤ X 124 a ∧ X 124 a ≤ 60 := by rcases hra with h | h <;> omega
          have j2 : -1 ≤ X 124 c ∧ X 124 c ≤ 60 := by rcases hrc with h | h <;> omega
          rw [c2_ok (by omega) (by omega) (by decide) (by decide)]
          by_cases m1 : X 124 a = -1
          · rw [if_pos m1, if_pos m1]
          · rw [if_neg m1, if_neg m1, ax_ok h3.1 h3.2, c2_ok (by omega) (by omega) (by decide) (by decide)]
            by_cases m2 : X 124 c = -1
            · rw [if_neg (by simpa using m2), if_pos m2]
            · rw [if_pos m2, if_neg m2, ax_ok h1.1 h1.2, ax_ok h3.1 h3.2, y3]
              have k1 : 0 ≤ X 123 a ∧ X 123 a ≤ 3 := by rcases hra with h | h <;> omega
              have k2 : 0 ≤ X 123 c ∧ X 123 c ≤ 3 := by rcases hrc with h | h <;> omega
              rw [c2_ok (by omega) (by omega) (by omega) (by omega)]
              by_cases m3 : X 123 a = X 123 c
              · rw [if_pos m3, if_pos m3, ax_ok h1.1 h1.2, c2_ok hn.1 hn.2 (by omega) (by omega), ax_ok h3.1 h3.2, c2_ok hn.1 hn.2 (by omega) (by omega)]
              · rw [if_neg m3, if_neg m3]
        · rw [if_neg g3, if_neg (by omega)]
  by_cases g : 0 ≤ b ∧ 0 ≤ d ∧ 0 ≤ n
  rotate_left
  · exact pr_refuse (v := 1) (by decide) (by decide) hS hT (by rw [eA, if_neg g]; rfl) (fun Y hY => by rw [eB Y (by rw [hY, ms_ne (by decide)]) (by rw [hY, ms_ne (by decide)]), if_neg g]; rfl)
  rcases hra with m1 | ⟨g1, g2, g3, g4, g5, g6, g7⟩
  · exact pr_refuse (v := 2) (by decide) (by decide) hS hT (by rw [eA, if_pos g, if_pos m1.1]; rfl) (fun Y hY => by rw [eB Y (by rw [hY, ms_ne (by decide)]) (by rw [hY, ms_ne (by decide)]), if_pos g, if_pos m1.2]; rfl)
  rcases hrc with m2 | ⟨f1, f2, f3, f4, f5, f6, f7⟩
  · exact pr_refuse (v := 2) (by decide) (by decide) hS hT (by rw [eA, if_pos g, if_neg (by omega), if_pos m2.1]; rfl) (fun Y hY => by rw [eB Y (by rw [hY, ms_ne (by decide)]) (by rw [hY, ms_ne (by decide)]), if_pos g, if_neg (by omega), if_pos m2.2]; rfl)
  by_cases m3 : X (61 + 2 * a) 1 = X (61 + 2 * c) 1
  rotate_left
  · exact pr_refuse (v := 8) (by decide) (by decide) hS hT (by rw [eA, if_pos g, if_neg (by omega), if_neg (by omega), if_neg m3]) (fun Y hY => by rw [eB Y (by rw [hY, ms_ne (by decide)]) (by rw [hY, ms_ne (by decide)]), if_pos g, if_neg (by omega), if_neg (by omega), if_neg (by omega)])
  by_cases m4 : n ≤ X (61 + 2 * a) 2 - b ∧ b ≤ X (61 + 2 * a) 2
  rotate_left
  · exact pr_refuse (v := 3) (by decide) (by decide) hS hT (by rw [eA, if_pos g, if_neg (by omega), if_neg (by omega), if_pos m3, holds_eq hb g.1 hn (by omega) (by omega), cl_some, if_neg m4, c1_ok (by decide) (by decide), if_pos rfl]; rfl) (fun Y hY => by rw [eB Y (by rw [hY, ms_ne (by decide)]) (by rw [hY, ms_ne (by decide)]), if_pos g, if_neg (by omega), if_neg (by omega), if_pos (by omega), if_pos (by omega)]; rfl)
  by_cases m5 : n ≤ X (61 + 2 * c) 2 - d ∧ d ≤ X (61 + 2 * c) 2
  rotate_left
  · exact pr_refuse (v := 3) (by decide) (by decide) hS hT (by rw [eA, if_pos g, if_neg (by omega), if_neg (by omega), if_pos m3, holds_eq hb g.1 hn (by omega) (by omega), cl_some, if_pos m4, c1_ok (by decide) (by decide), if_neg (by decide), holds_eq hd g.2.1 hn (by omega) (by omega), cl_some, if_neg m5, c1_ok (by decide) (by decide), if_neg (by decide)]; rfl) (fun Y hY => by rw [eB Y (by rw [hY, ms_ne (by decide)]) (by rw [hY, ms_ne (by decide)]), if_pos g, if_neg (by omega), if_neg (by omega), if_pos (by omega), if_neg (by omega), if_neg (by omega)]; rfl)
  obtain ⟨Y, hY⟩ : ∃ Y : Mem, ms (mc X (61 + 2 * a + 1) b (61 + 2 * c + 1) d n) 0 16 0 = Y := ⟨_, rfl⟩
  have y0 : ∀ i : Int, i ≠ 0 → i ≠ 61 + 2 * c + 1 → Y i = X i := fun i a1 a2 => by rw [← hY, ms_ne a1, mc_off a2]
  have y1 : Y 0 = up (X 0) 16 0 := by rw [← hY, ms_ma, ma_same, mc_off (by omega)]
  have y2 : ∀ q : Int, Y (61 + 2 * c + 1) q = if d ≤ q ∧ q < d + n then X (61 + 2 * a + 1) (b + (q - d)) else X (61 + 2 * c + 1) q := fun q => by rw [← hY, ms_ne (by omega), mc_on]
  obtain ⟨Z, hZ⟩ : ∃ Z : Mem, ms (ma Y 125 (mvF (X 125) (60 * a + b) (60 * c + d) 0 n)) 120 2 0 = Z := ⟨_, rfl⟩
  have z0 : ∀ i : Int, i ≠ 120 → i ≠ 125 → Z i = Y i := fun i a1 a2 => by rw [← hZ, ms_ne a1, ma_ne a2]
  have z1 : Z 120 = up (X 120) 2 0 := by rw [← hZ, ms_ma, ma_same, ma_ne (by decide), y0 _ (by decide) (by omega)]
  have z2 : Z 125 = mvF (X 125) (60 * a + b) (60 * c + d) 0 n := by rw [← hZ, ms_ne (by decide), ma_same]
  refine ⟨1, Y, Z, ?_, ?_, ⟨by decide, by decide⟩, ?_, ?_, ?_⟩
  · rw [eA, if_pos g, if_neg (by omega), if_neg (by omega), if_pos m3, holds_eq hb g.1 hn (by omega) (by omega), cl_some, if_pos m4, c1_ok (by decide) (by decide), if_neg (by decide), holds_eq hd g.2.1 hn (by omega) (by omega), cl_some, if_pos m5, c1_ok (by decide) (by decide), if_pos (by decide), cpk_ok g.1 g.2.1 g.2.2 (by omega) (by omega), bd_eq, agree_eq, cl_some, cz_1, hY]
  · rw [eB Y (y0 _ (by decide) (by omega)) (y0 _ (by decide) (by omega)), if_pos g, if_neg (by omega), if_neg (by omega), if_pos (by omega), if_neg (by omega), if_pos (by omega), pour_118 h1 g.1 h3 g.2.1 g.2.2 (by omega) (by omega) (X 125) KF 0 Y (by decide) g.2.2 (by rw [KF_eq]; have := hn.2; omega) (by
      rw [y0 125 (by decide) (by omega)]
      funext q
      split <;> exact (if_neg (by omega)).symm), hZ]
  · obtain ⟨r1, r2, r3⟩ := hS
    unfold RS
    rw [z1, z0 0 (by decide) (by decide), y1, up_same, up_same, up_ne (by decide), up_ne (by decide), up_ne (by decide), up_ne (by decide)]
    exact ⟨⟨by decide, by decide, rfl⟩, r2, r3⟩
  · intro t t0 t1
    unfold RT1
    rw [z2, z0 (61 + 2 * t) (by omega) (by omega), z0 123 (by decide) (by decide), z0 124 (by decide) (by decide), z0 (62 + 2 * t) (by omega) (by omega), y0 (61 + 2 * t) (by omega) (by omega), y0 123 (by decide) (by omega), y0 124 (by decide) (by omega)]
    by_cases ht : t = c
    · subst ht
      refine Or.inr ⟨f1, f2, f3, f4, f5, f6, fun j j0 j1 => ?_⟩
      rw [show 62 + 2 * t = 61 + 2 * t + 1 from by omega, y2]
      unfold mvF
      by_cases hj : d ≤ j ∧ j < d + n
      · rw [if_pos hj, if_pos (by omega), show 61 + 2 * a + 1 = 62 + 2 * a from by omega, show 60 * a + b + (60 * t + j - (60 * t + d)) = 60 * a + (b + (j - d)) from by omega]
        exact g7 _ (by omega) (by omega)
      · rw [if_neg hj, if_neg (by omega), show 61 + 2 * t + 1 = 62 + 2 * t from by omega]
        exact f7 j j0 j1
    · rw [y0 (62 + 2 * t) (by omega) (by omega)]
      rcases hT t t0 t1 with h | ⟨e1, e2, e3, e4, e5, e6, e7⟩
      · exact Or.inl h
      · refine Or.inr ⟨e1, e2, e3, e4, e5, e6, fun j j0 j1 => ?_⟩
        unfold mvF
        rw [if_neg (by omega)]
        exact e7 j j0 j1
  · intro i k hp
    rw [← hZ]
    have hp2 : ¬ PT i k := hp
    unfold PT at hp2
    rw [show ms (ma Y 125 (mvF (X 125) (60 * a + b) (60 * c + d) 0 n)) 120 2 0 i k = Y i k from by
      unfold ms
      rw [if_neg (by omega), ma_ne (by omega)], ← hY]
    unfold ms
    rw [if_neg (by omega), mc_off (by omega)]
