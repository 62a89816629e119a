/-! worth and next: both sides -/
theorem bwv_ext {A : Int → Int} {wy : Int → Bool} {l w w' : Int → Int} {k : Nat} (h : ∀ s : Int, 0 ≤ s → s < 32 → w s = w' s) : bwv A wy l k w = bwv A wy l k w' := by
  funext b
  unfold bwv
  exact rds_ext (fun v => WVs_ext k _ _ fun s s0 s1 => by rw [h s s0 s1]) _
theorem anyc_no {l : Int → Int} : ∀ n : Nat, anyc l n ≠ true → ∀ b : Int, 0 ≤ b → b < n → l b = -1
  | 0, _, b, b0, b1 => by omega
  | n + 1, h, b, b0, b1 => by
    have e : anyc l (n + 1) = (anyc l n || decide (l n ≠ -1)) := rfl
    by_cases g : anyc l n = true
    · rw [e, g, Bool.true_or] at h
      exact absurd rfl h
    · by_cases g2 : l n = -1
      · by_cases eb : b = n
        · rw [eb]; exact g2
        · exact anyc_no n g b b0 (by omega)
      · rw [e, decide_eq_true g2, Bool.or_true] at h
        exact absurd rfl h
theorem anyc_yes {l : Int → Int} : ∀ n : Nat, anyc l n = true → ∃ b : Int, 0 ≤ b ∧ b < n ∧ l b ≠ -1
  | 0, h => by simp [anyc] at h
  | n + 1, h => by
    have e : anyc l (n + 1) = (anyc l n || decide (l n ≠ -1)) := rfl
    by_cases g : anyc l n = true
    · obtain ⟨b, b0, b1, b2⟩ := anyc_yes n g
      exact ⟨b, b0, by omega, b2⟩
    · by_cases g2 : l n = -1
      · rw [e, decide_eq_false (fun h => h g2), Bool.or_false] at h
        exact absurd h g
      · exact ⟨n, by omega, by omega, g2⟩
theorem bestBar_no {Z : Mem} {l : Int → Int} {k : Int} (hB : BD (Z 121)) (hl : ∀ b : Int, 0 ≤ b → b < Z 121 2 → LE (Z 121) b (l b)) (hn : ∀ b : Int, 0 ≤ b → b < Z 121 2 → l b = -1) : ∀ (K : Nat) (j : Int), 0 ≤ j → j ≤ Z 121 2 → (Z 121 2 - j).toNat < K → L_X12_bestBar_7 K k (-1) 0 j Z = some (-1, Z) := by
  have hA := hB.2.1
  intro K
  induction K with
  | zero => intro j _ _ h; omega
  | succ K ih =>
    intro j j0 j1 hK
    rw [L_X12_bestBar_7, ax_ok (by decide) (by decide), c2_ok (by omega) (by omega) (by omega) (by omega)]
    by_cases g : Z 121 2 ≤ j
    · rw [if_pos g]
    · rw [if_neg g, hasCell_eq hB (inI_s (by omega) (by omega)) (hl j j0 (by omega)), cl_some, if_pos (hn j j0 (by omega)), c1_okk (by decide) (by decide), if_neg (by decide), B_X12_bestBar_60]
      exact ih (j + 1) (by omega) (by omega) (by omega)
/-- a level's row holds the thought -/
theorem TH.lr {P A G : Int → Int} (hT : TH P A) (hN : NS A ≤ 32) (hG : ∀ s : Int, 0 ≤ s → s < NS A → G s = P s) (k : Nat) (s : Int) (s0 : 0 ≤ s) (s1 : s < NS A) : 0 ≤ G (0 + s) ∧ G (0 + s) ≤ Mk k := by
  have h1 := hT.1 s s0 (by omega)
  have h2 : (1000000 : Int) ≤ Mk k := by
    match k with
    | 0 => decide
    | 1 => decide
    | 2 => decide
    | k + 3 => exact Int.le_refl _
  rw [Int.zero_add, hG s s0 s1]
  omega
/-- what the reference's search for a best bar comes to, in the memory after readying and laying the thought -/
theorem best_m {Z : Mem} {P l G : Int → Int} {nd f to : Int} {wy : Int → Bool} {k : Nat} (hB : BD (Z 121)) (hk : k ≤ 2) (hT : TH P (Z 121)) (f0 : 0 ≤ f) (f1 : f < Z 121 0 * Z 121 1) (hF : ∀ a : Int, 0 ≤ a → a < NS (Z 121) → FEW (Z 121) nd f to a (Z 134 a)) (hw : ∀ a : Int, 0 ≤ a → a < NS (Z 121) → (wy a = true ↔ WAYP (Z 121) nd f to a)) (hl : ∀ b : Int, 0 ≤ b → b < Z 121 2 → LE (Z 121) b (l b)) (hG : ∀ s : Int, 0 ≤ s → s < NS (Z 121) → G s = P s) :
    ∃ (b : Int) (G' : Int → Int), f_X12_bestBar ((k : Int) + 1) (ma Z 136 G) = some (b, ma Z 136 G') ∧ FBB (bwv (Z 121) wy l k P) l (Z 121 2) b ∧ ∀ s : Int, 0 ≤ s → s < NS (Z 121) → G' s = P s := by
  have hA := hB.2.1
  have hN := NS_r hA
  have e121 : (ma Z 136 G) 121 = Z 121 := ma_ne (by decide)
  have h0 : ∀ o : Int, 0 ≤ o → o ≤ 96 → LVP Z wy l (f_X12_worth0 o) o 0 := fun o o0 o1 => LVP_0 hB f0 f1 o0 o1 hF hw
  unfold f_X12_bestBar
  by_cases ga : anyc l (Z 121 2).toNat = true
  · obtain ⟨b, G', q1, q2, q3⟩ := bestBar_7 (wy := wy) hB hk hl ga h0 KF 0 (-1) 0 G (lvl G (NS (Z 121)) 0) (by decide) (by omega) (by rw [KF_eq]; omega) (fun s s0 s1 => hT.lr (by omega) hG _ s s0 s1) rfl (Or.inl ⟨rfl, fun c _ _ => by omega⟩) (fun h => absurd rfl h) (by decide)
    rw [bwv_ext (fun s s0 s1 => thinks_lvl hT hG s s0 s1)] at q2
    exact ⟨b, G', q1, q2, fun s s0 s1 => by rw [q3 s (by omega)]; exact hG s s0 s1⟩
  · have hno : ∀ b : Int, 0 ≤ b → b < Z 121 2 → l b = -1 := fun b b0 b1 => anyc_no _ ga b b0 (by omega)
    refine ⟨-1, G, bestBar_no (l := l) (by rw [e121]; exact hB) (by rw [e121]; exact hl) (by rw [e121]; exact hno) KF 0 (by decide) (by rw [e121]; omega) (by rw [e121, KF_eq]; omega), Or.inl ⟨rfl, hno⟩, hG⟩
noncomputable def whl (l : Int → Int) (m k : Nat) : Int := if anyc l m = true then 1000000 * 32 ^ k else 1000000
/-- the reference's worth, all but the telling -/
theorem worthm_eq {cn : Int} {X : Mem} {P l : Int → Int} {f to : Int} {wy : Int → Bool} {k : Nat} (hB : BD (X 121)) (hC : CK cn X) (hcn : cn ≤ 1000) (hk : k ≤ 3) (hT : TH P (X 121)) (hf : inI f) (ht : inI to) (g1 : 0 ≤ f ∧ f < X 121 0 * X 121 1) (g2 : 0 ≤ to ∧ to < X 121 0 * X 121 1) (hw : ∀ a : Int, 0 ≤ a → a < NS (X 121) → (wy a = true ↔ WAYP (X 121) (ND (X 121)) f to a)) (hl : ∀ b : Int, 0 ≤ b → b < X 121 2 → LE (X 121) b (l b)) :
    ∃ Z : Mem, f_X12_worth f to k X = (cl (f_X12_tellsBy (WVs (X 121) wy (NS (X 121)).toNat (X 121 2).toNat l (stg (X 121) (X 121 3)) k P) (whl l (X 121 2).toNat k) Z) fun r Z' => cz r (some (r, Z'))) ∧ (∀ i j : Int, ¬ SCR i j → ¬ CKC i j → Z i j = X i j) ∧ CK cn Z := by
  have hA := hB.2.1
  have hN := NS_r hA
  obtain ⟨Z1, r1, r2, r4, r3⟩ := readies_eq hB hC hcn g1.1 g1.2 g2.1 g2.2
  have z121 : Z1 121 = X 121 := funext fun k => r2 121 k (by omega) (by decide) (by decide) (by decide)
  rw [← z121] at hB hT hw hl r4
  obtain ⟨G, t1, t2⟩ := thinks_eq hB hT
  have fr : ∀ G' : Int → Int, ∀ i j : Int, ¬ SCR i j → ¬ CKC i j → (ma Z1 136 G') i j = X i j := fun G' i j s1 s2 => by
    rw [ma_ne (by unfold SCR at s1; omega)]
    exact r2 i j (by unfold CKC at s2; omega) (by unfold SCR at s1; omega) (by unfold SCR at s1; omega) (by unfold CKC at s2; omega)
  have fc : ∀ G' : Int → Int, CK cn (ma Z1 136 G') := fun G' => CK.fr hB r3 (by rw [ma_ne (by decide)]) (by rw [ma_ne (by decide)]) (by rw [ma_ne (by decide)]) (by rw [ma_ne (by decide)]) (by rw [ma_ne (by decide)]) (by rw [ma_ne (by decide)]) (by rw [ma_ne (by decide)]; exact fun _ _ => rfl)
  have h0 : ∀ o : Int, 0 ≤ o → o ≤ 96 → LVP Z1 wy l (f_X12_worth0 o) o 0 := fun o o0 o1 => LVP_0 hB g1.1 (by rw [z121]; exact g1.2) o0 o1 r4 hw
  have hL0 : ∀ G' : Int → Int, (∀ s : Int, 0 ≤ s → s < NS (Z1 121) → G' s = P s) → ∃ G'' : Int → Int, f_X12_worth0 0 (ma Z1 136 G') = some (mxw wy P (NS (Z1 121)).toNat, ma Z1 136 G'') := fun G' hG' => by
    obtain ⟨G'', q1, -⟩ := h0 0 (by decide) (by decide) G' (fun s s0 s1 => hT.lr (by rw [z121]; omega) hG' _ s s0 s1)
    rw [WVs_ext 0 _ P (fun s s0 s1 => thinks_lvl hT hG' s s0 s1)] at q1
    exact ⟨G'', q1⟩
  have ea : f_X12_areCells f to X = some (1, X) := by rw [areCells_eq (by rw [← z121]; exact hB) hf ht, if_pos ⟨g1, g2⟩]
  have eh : f_X12_worth f to k X = if ¬ (k : Int) = 0 then (cl (f_X12_bestBar k (ma Z1 136 G)) fun r9 X10 => B_X12_worth_47 k r9 X10) else B_X12_worth_47 k (-1) (ma Z1 136 G) := by
    unfold f_X12_worth
    rw [ea, cl_some, c1_okk (by decide) (by decide), if_neg (by decide), c1_okk (by omega) (by omega), if_neg (by omega), c2_ok (by omega) (by omega) (by decide) (by decide), if_pos (by omega), r1, cl_some, t1, cl_some, c1_okk (by omega) (by omega)]
  rw [eh]
  clear eh
  match k, hk with
  | 0, _ =>
    obtain ⟨G'', q1⟩ := hL0 G t2
    refine ⟨ma Z1 136 G'', ?_, fr _, fc _⟩
    have ew : whl l (X 121 2).toNat 0 = 1000000 := by
      unfold whl
      split <;> rfl
    rw [if_neg (by decide), B_X12_worth_47, c2_ok (by decide) (by decide) (by decide) (by decide), if_neg (by decide), q1, cl_some, ew, z121]
    rfl
  | k + 1, hk =>
    have ek : ((k + 1 : Nat) : Int) = (k : Int) + 1 := rfl
    obtain ⟨b, G', b1, b2, b3⟩ := best_m (wy := wy) (f := f) (k := k) hB (by omega) hT g1.1 (by rw [z121]; exact g1.2) r4 hw hl t2
    rw [if_pos (by omega), ek, b1, cl_some]
    by_cases ga : anyc l (Z1 121 2).toNat = true
    · have hbn : b ≠ -1 := by
        obtain ⟨c, c0, c1, c2⟩ := anyc_yes _ ga
        rcases b2 with ⟨-, h2⟩ | ⟨h1, -⟩
        · rw [z121] at c1
          exact absurd (h2 c c0 (by rw [z121]; omega)) c2
        · omega
      have hb2 : (0 ≤ b ∧ b < Z1 121 2) ∧ l b ≠ -1 := by
        rcases b2 with ⟨h1, -⟩ | ⟨h1, h2, -⟩
        · exact absurd h1 hbn
        · exact ⟨h1, h2⟩
      obtain ⟨G'', q1, -⟩ := worthOf_k (b := b) hB (show k ≤ 2 by omega) hl ga h0 hb2.1.1 hb2.1.2 hb2.2 G' (fun s s0 s1 => hT.lr (by rw [z121]; omega) b3 _ s s0 s1)
      rw [bwv_ext (fun s s0 s1 => thinks_lvl hT b3 s s0 s1)] at q1
      have hF0 : ∀ c : Int, 0 ≤ c → l c ≠ -1 → 0 ≤ bwv (Z1 121) wy l k P c := fun c c0 hc => by
        have hnn : ∀ (F : Int → Int) (v0 : Int), (∀ v : Int, 0 ≤ F v) → ∀ n : Nat, 0 ≤ rds F v0 n := fun F v0 hF n => by
          induction n with
          | zero => exact Int.le_refl _
          | succ n ih =>
            have := hF (v0 + n)
            show 0 ≤ rds F v0 n + F (v0 + n)
            omega
        unfold bwv
        refine hnn _ _ (fun v => ?_) _
        refine (WVs_r hB (by rw [z121]; omega) k (Mk k) _ (fun s s0 s1 => ?_) ?_ ?_).1
        · have p1 := hT.1 s s0 s1
          have p2 := lk_r hB (d := dep (Z1 121) (stg (Z1 121) (Z1 121 3)) (l c) s) (v := v)
          have p3 := Mk_step (show k ≤ 2 by omega)
          have p4 : (1000000 : Int) ≤ Mk (k + 1) := by rcases (show k = 0 ∨ k = 1 ∨ k = 2 by omega) with rfl | rfl | rfl <;> decide
          refine ⟨Int.mul_nonneg p1.1 p2.1, ?_⟩
          have p5 := Int.mul_le_mul p1.2 p2.2 p2.1 (by decide : (0 : Int) ≤ 1000000)
          omega
        · exact (Mk_step (show k ≤ 2 by omega)).2.2.2
        · exact (Mk_step (show k ≤ 2 by omega)).2.2.1
      have hn2 : FBB (bwv (Z1 121) wy l k P) l (((Z1 121 2).toNat : Nat) : Int) b := by
        rw [show (((Z1 121 2).toNat : Nat) : Int) = Z1 121 2 by rw [z121]; omega]
        exact b2
      have hbm := (FBB_bmx hF0 (Z1 121 2).toNat b hn2 hbn).1
      have ew : whl l (X 121 2).toNat (k + 1) = 1000000 * 32 ^ (k + 1) := by
        unfold whl
        rw [← z121, if_pos ga]
      refine ⟨ma Z1 136 G'', ?_, fr _, fc _⟩
      have e76 := whole_76 (X := ma Z1 136 G') (b := b) KF (k + 1) 0 (by omega) (by omega) (by rw [KF_eq]; omega)
      have e76 : L_X12_worth_76 KF ((k + 1 : Nat) : Int) b 1000000 0 (ma Z1 136 G') = _ := e76
      rw [ek] at e76
      rw [B_X12_worth_47, c2_ok (by omega) (by rw [z121] at hb2; omega) (by decide) (by decide), if_pos hbn, e76, B_X12_worth_96, q1, cl_some, ew, ← z121, WVs_succ ga, hbm]
    · have hb : b = -1 := by
        rcases b2 with ⟨h1, -⟩ | ⟨⟨h0, h1⟩, h2, -⟩
        · exact h1
        · exact absurd (anyc_no _ ga b h0 (by rw [z121] at h1 ⊢; omega)) h2
      obtain ⟨G'', q1⟩ := hL0 G' b3
      have ew : whl l (X 121 2).toNat (k + 1) = 1000000 := by
        unfold whl
        rw [← z121, if_neg ga]
      have ev : WVs (X 121) wy (NS (X 121)).toNat (X 121 2).toNat l (stg (X 121) (X 121 3)) (k + 1) P = mxw wy P (NS (X 121)).toNat := by
        show (if anyc l (X 121 2).toNat = true then _ else _) = _
        rw [← z121, if_neg ga]
      refine ⟨ma Z1 136 G'', ?_, fr _, fc _⟩
      rw [hb, B_X12_worth_47, c2_ok (by decide) (by decide) (by decide) (by decide), if_neg (by decide), q1, cl_some, ew, ev, z121]
/-- the reference's next -/
theorem nextm_eq {cn : Int} {X : Mem} {P l : Int → Int} {f to : Int} {wy : Int → Bool} {k : Nat} (hB : BD (X 121)) (hC : CK cn X) (hcn : cn ≤ 1000) (hk : k ≤ 2) (hT : TH P (X 121)) (hf : inI f) (ht : inI to) (g1 : 0 ≤ f ∧ f < X 121 0 * X 121 1) (g2 : 0 ≤ to ∧ to < X 121 0 * X 121 1) (hw : ∀ a : Int, 0 ≤ a → a < NS (X 121) → (wy a = true ↔ WAYP (X 121) (ND (X 121)) f to a)) (hl : ∀ b : Int, 0 ≤ b → b < X 121 2 → LE (X 121) b (l b)) :
    ∃ (b : Int) (Z : Mem), FBB (bwv (X 121) wy l k P) l (X 121 2) b ∧ f_X12_next f to ((k : Int) + 1) X = (if b ≠ -1 then some (b, ms Z 120 2 0) else some (-1, ms Z 120 2 6)) ∧ (∀ i j : Int, ¬ SCR i j → ¬ CKC i j → Z i j = X i j) ∧ CK cn Z := by
  have hA := hB.2.1
  have hN := NS_r hA
  obtain ⟨Z1, r1, r2, r4, r3⟩ := readies_eq hB hC hcn g1.1 g1.2 g2.1 g2.2
  have z121 : Z1 121 = X 121 := funext fun k => r2 121 k (by omega) (by decide) (by decide) (by decide)
  rw [← z121] at hB hT hw hl r4
  obtain ⟨G, t1, t2⟩ := thinks_eq hB hT
  obtain ⟨b, G', b1, b2, b3⟩ := best_m (wy := wy) (f := f) hB hk hT g1.1 (by rw [z121]; exact g1.2) r4 hw hl t2
  rw [z121] at b2
  have hbr : -1 ≤ b ∧ b < 5 := by
    rcases b2 with ⟨h1, -⟩ | ⟨⟨h1, h2⟩, -⟩ <;> omega
  refine ⟨b, ma Z1 136 G', b2, ?_, fun i j s1 s2 => ?_, ?_⟩
  · unfold f_X12_next
    rw [areCells_eq (by rw [← z121]; exact hB) hf ht, if_pos ⟨g1, g2⟩, cl_some, c1_okk (by decide) (by decide), if_neg (by decide), c2_ok (by omega) (by omega) (by decide) (by decide), if_neg (by omega), c2_ok (by omega) (by omega) (by decide) (by decide), if_pos (by omega), r1, cl_some, t1, cl_some, b1, cl_some, c2_ok (by omega) (by omega) (by decide) (by decide)]
    by_cases g : b = -1
    · rw [if_neg (by simpa using g), if_neg (by simpa using g), refusem_eq, cl_some]
    · rw [if_pos g, if_pos g, gives_eq, cl_some]
  · rw [ma_ne (by unfold SCR at s1; omega)]
    exact r2 i j (by unfold CKC at s2; omega) (by unfold SCR at s1; omega) (by unfold SCR at s1; omega) (by unfold CKC at s2; omega)
  · exact CK.fr hB r3 (by rw [ma_ne (by decide)]) (by rw [ma_ne (by decide)]) (by rw [ma_ne (by decide)]) (by rw [ma_ne (by decide)]) (by rw [ma_ne (by decide)]) (by rw [ma_ne (by decide)]) (by rw [ma_ne (by decide)]; exact fun _ _ => rfl)
theorem TH.rwt {P A : Int → Int} (h : TH P A) : RWT A P 1000000 := ⟨fun s s0 s1 => (h.1 s s0 s1).1, fun s s0 s1 => h.2.2.1 s s0 s1, by rw [h.2.1]; exact Int.le_refl _⟩
theorem p608 {k : Nat} (hk : k ≤ 3) : (608 : Int) ^ k * 1000000 ≤ 1000000000000000 := by
  rcases (show k = 0 ∨ k = 1 ∨ k = 2 ∨ k = 3 by omega) with rfl | rfl | rfl | rfl <;> decide
theorem w608 {l : Int → Int} {m k : Nat} (hk : k ≤ 3) : 0 < whl l m k ∧ whl l m k < 2 ^ 40 := by
  unfold whl
  split
  · rcases (show k = 0 ∨ k = 1 ∨ k = 2 ∨ k = 3 by omega) with rfl | rfl | rfl | rfl <;> decide
  · decide
/-- the class, up to the first weighing -/
theorem begun {cn : Int} {X : Mem} (h : REL cn X) {f to : Int} {k : Nat} (hk : k ≤ 3) (g1 : 0 ≤ f ∧ f < X 121 0 * X 121 1) (g2 : 0 ≤ to ∧ to < X 121 0 * X 121 1) :
    ∃ (v : Int) (Y1 Y2 Y3 : Mem), f_X1_look (X 2 0) (X 2 3) (X 2 4) X = some (0, Y1) ∧ f_X1_search f to Y1 = some (v, Y2) ∧ f_X6_begin 2 k Y2 = some (0, Y3) ∧ (∀ i j : Int, ¬ SCR i j → Y3 i j = X i j) ∧ CWX (X 121) (X (X 2 0 + 9)) (ND (X 121)) f to (X 2 0) Y3 ∧ RWT (X 121) (Y3 (51 + k)) 1000000 ∧ ∀ q : Int, 0 ≤ q → q < 32 → Y3 (51 + k) q = X 18 q := by
  obtain ⟨n1, n2, n3, n4, n5, n6⟩ := h.now
  have hrr := RIV_r n1
  have hN := NS_r n3.2.1
  obtain ⟨v, Y1, Y2, e1, e2, e3, e4, e5, e6, e7, e8, -⟩ := ground_eq (d := X 2 3) (o := X 2 4) n1 n2 n3 (by rw [n4]; exact n3.2.2.1.1) (by rw [n4]; exact n3.2.2.1.2) (by rw [n5]; exact n3.2.2.2.1.1) (by rw [n5]; exact n3.2.2.2.1.2) g1.1 g1.2 g2.1 g2.2
  have hnd : X 121 5 - X 2 4 - stg (X 121) (X 2 3) = ND (X 121) := by rw [n4, n5]; rfl
  rw [hnd] at e5 e8
  have y2 : Y2 2 = X 2 := e3 2 (by decide) (by decide) (by decide) (by decide)
  have yr : ∀ b : Int, Y2 (X 2 0 + 9) b = X (X 2 0 + 9) b := fun b => by rw [e3 (X 2 0 + 9) (by omega) (by omega) (by omega) (by omega)]
  obtain ⟨Y3, b1, b2, b3, b4, b5, b6⟩ := begin_eq (X := Y2) (A := X 121) (l := X (X 2 0 + 9)) (r := X 2 0) (k := (k : Int)) n3 n1 e5.2.1 (by rw [y2]) (by rw [y2]; exact n4) (fun b _ _ => yr b) (by omega) (by omega)
  have h3 : ∀ q : Int, 0 ≤ q → q < 32 → Y3 (51 + k) q = X 18 q := fun q q0 q1 => by rw [b3 q q0 q1, e3 18 (by decide) (by decide) (by decide) (by decide)]
  refine ⟨v, Y1, Y2, Y3, e1, e2, b1, fun i j hs => ?_, ⟨?_, ?_, b4, b5, b6, fun b _ _ => ?_⟩, n6.rwt.ext (by omega) h3, h3⟩
  · rw [b2 i (by unfold SCR at hs; omega) (by unfold SCR at hs; omega)]
    by_cases e : i = 42
    · subst e
      by_cases ek : j = 7
      · subst ek
        exact e4
      · exact absurd (by unfold SCR; omega) hs
    · rw [e3 i e (by unfold SCR at hs; omega) (by unfold SCR at hs; omega) (by unfold SCR at hs; omega)]
  · exact e5.fr (fun i hi => b2 i (by omega) (by omega)) (fun q _ => by rw [b2 42 (by decide) (by omega)]) (b2 46 (by decide) (by omega))
  · unfold SRC at *
    rw [b2 42 (by decide) (by omega), b2 43 (by decide) (by omega), b2 44 (by decide) (by omega)]
    exact e8
  · rw [b2 (X 2 0 + 9) (by omega) (by omega)]
    exact yr b
theorem wy_ex (p : Int → Prop) : ∃ wy : Int → Bool, ∀ a : Int, wy a = true ↔ p a := ⟨fun a => @decide (p a) (Classical.propDecidable _), fun a => @decide_eq_true_iff (p a) (Classical.propDecidable _)⟩
theorem q_worth : pair_33 REL := by
  intro f to k hf ht hk cn X hcn h
  obtain ⟨n1, n2, n3, n4, n5, n6⟩ := h.now
  have hN := NS_r n3.2.1
  have eM : ∀ v : Int, ms X 0 16 v 121 = X 121 := fun v => s16 (by decide)
  show OUT cn (f_X11_worth f to k) (f_X12_worth f to k) X
  by_cases gc : ((0 ≤ f ∧ f < X 121 0 * X 121 1) ∧ (0 ≤ to ∧ to < X 121 0 * X 121 1)) ∧ (0 ≤ k ∧ k ≤ 3)
  · obtain ⟨⟨g1, g2⟩, g3⟩ := gc
    obtain ⟨k, rfl⟩ : ∃ n : Nat, k = n := ⟨k.toNat, by omega⟩
    obtain ⟨wy, hwy⟩ := wy_ex (fun a => WAYP (X 121) (ND (X 121)) f to a)
    have hl : ∀ b : Int, 0 ≤ b → b < X 121 2 → LE (X 121) b (X (X 2 0 + 9) b) := fun b b0 b1 => n2.2.2.2.2.2.1 b b0 b1
    obtain ⟨v, Y1, Y2, Y3, e1, e2, e3, e4, e5, e6, e7⟩ := begun h (k := k) (by omega) g1 g2
    obtain ⟨Y4, w1, w2⟩ := LVC_d (r := X 2 0) n3 (fun a _ _ => hwy a) hl k 5 (by omega) (by omega) Y3 1000000 e5 e6 (by decide) (p608 (by omega))
    rw [WVs_ext k _ (X 18) e7] at w1
    have hWs := WVs_s (wy := wy) (N := (NS (X 121)).toNat) (m := (X 121 2).toNat) (l := X (X 2 0 + 9)) (st := stg (X 121) (X 121 3)) n3 (by have := n3.2.1; omega) (by omega) (by omega) k 1000000 (X 18) n6.rwt (by decide)
    have h608 := p608 (k := k) (by omega)
    have hwh := w608 (l := X (X 2 0 + 9)) (m := (X 121 2).toNat) (k := k) (by omega)
    generalize hV : WVs (X 121) wy (NS (X 121)).toNat (X 121 2).toNat (X (X 2 0 + 9)) (stg (X 121) (X 121 3)) k (X 18) = V at *
    have hV2 : V < 2 ^ 60 := by
      have : (1000000000000000 : Int) < 2 ^ 60 := by decide
      omega
    have hJ := frac_J (a := V) (b := whl (X (X 2 0 + 9)) (X 121 2).toNat k) hWs.1 hV2 hwh.1 hwh.2
    have hY4 : ∀ i j : Int, ¬ SCR i j → Y4 i j = X i j := fun i j hs => by
      rw [w2 i (by unfold SCR at hs; omega) (by unfold SCR at hs; omega)]
      exact e4 i j hs
    refine out_fs h hY4 hJ.1 hJ.2 (r := 1) (inI_s (by decide) (by decide)) ?_ fun x121 hck => ?_
    · have ewh : f_X6_wholeOf k Y4 = some (whl (X (X 2 0 + 9)) (X 121 2).toNat k, Y4) := by
        unfold f_X6_wholeOf whl
        rw [w2 49 (by decide) (by omega), e5.2.2.2.2.1]
        by_cases ga : anyc (X (X 2 0 + 9)) (X 121 2).toNat = true
        · rw [if_pos ga, if_pos ga, c1_okk (by decide) (by decide), if_neg (by decide)]
          exact congrArg (fun z => some (z, Y4)) (whole_sh ⟨k, by omega⟩)
        · rw [if_neg ga, if_neg ga, c1_okk (by decide) (by decide), if_pos rfl]
      unfold f_X11_worth
      rw [isCell_eq n1 n2 n3 hf, if_pos g1, cl_some, c1_okk (by decide) (by decide), if_neg (by decide), isCell_eq n1 n2 n3 ht, if_pos g2, cl_some, c1_okk (by decide) (by decide), if_neg (by decide), c1_okk (by omega) (by omega), if_neg (by omega), c2_ok (by omega) (by omega) (by decide) (by decide), if_pos (by omega), cm_ok n1, e1, cl_some, e2, cl_some, e3, cl_some, w1, cl_some, ewh, cl_some, tellF_s hWs.1 hV2 hwh.1 hwh.2, cl_some, cz_1]
    · obtain ⟨Z, z1, z2, z3⟩ := worthm_eq (P := X 18) (l := X (X 2 0 + 9)) (wy := wy) (k := k) (by rw [x121]; exact n3) hck (by omega) (by omega) (by rw [x121]; exact n6) hf ht (by rw [x121]; exact g1) (by rw [x121]; exact g2) (by rw [x121]; exact fun a _ _ => hwy a) (by rw [x121]; exact hl)
      rw [x121, hV, tellsBy_s hWs.1 hV2 hwh.1 hwh.2, cl_some, cz_1] at z1
      exact ⟨Z, z1, z2, z3⟩
  · refine out_st h (r := 0) (v := 1) (by decide) (by decide) (inI_s (by decide) (by decide)) ?_ ?_
    · have er : ∀ Y : Mem, B_X11_worth_25 Y = some (0, ms Y 0 16 1) := fun Y => by
        rw [B_X11_worth_25, refuse_eq, cl_some, cz_0]
      unfold f_X11_worth
      rw [isCell_eq n1 n2 n3 hf, cl_some]
      by_cases g1 : 0 ≤ f ∧ f < X 121 0 * X 121 1
      · rw [if_pos g1, c1_okk (by decide) (by decide), if_neg (by decide), isCell_eq n1 n2 n3 ht, cl_some]
        by_cases g2 : 0 ≤ to ∧ to < X 121 0 * X 121 1
        · rw [if_pos g2, c1_okk (by decide) (by decide), if_neg (by decide), c1_okk hk.1 hk.2]
          by_cases g3 : k < 0
          · rw [if_pos g3, er]
          · rw [if_neg g3, c2_ok hk.1 hk.2 (by decide) (by decide), if_neg (fun g4 => gc ⟨⟨g1, g2⟩, by omega, g4⟩), er]
        · rw [if_neg g2, c1_okk (by decide) (by decide), if_pos rfl, er]
      · rw [if_neg g1, c1_okk (by decide) (by decide), if_pos rfl, er]
    · have er : ∀ Y : Mem, B_X12_worth_18 Y = some (0, ms Y 120 2 1) := fun Y => by
        rw [B_X12_worth_18, isM_eq (by decide) (by decide), cl_some, cz_0]
      unfold f_X12_worth
      rw [areCells_eq (by rw [eM]; exact n3) hf ht, eM, cl_some]
      by_cases g1 : (0 ≤ f ∧ f < X 121 0 * X 121 1) ∧ (0 ≤ to ∧ to < X 121 0 * X 121 1)
      · rw [if_pos g1, c1_okk (by decide) (by decide), if_neg (by decide), c1_okk hk.1 hk.2]
        by_cases g3 : k < 0
        · rw [if_pos g3, er]
        · rw [if_neg g3, c2_ok hk.1 hk.2 (by decide) (by decide), if_neg (fun g4 => gc ⟨g1, by omega, g4⟩), er]
      · rw [if_neg g1, c1_okk (by decide) (by decide), if_pos rfl, er]
theorem q_next : pair_34 REL := by
  intro f to k hf ht hk cn X hcn h
  obtain ⟨n1, n2, n3, n4, n5, n6⟩ := h.now
  have hN := NS_r n3.2.1
  have eM : ∀ v : Int, ms X 0 16 v 121 = X 121 := fun v => s16 (by decide)
  show OUT cn (f_X11_next f to k) (f_X12_next f to k) X
  by_cases gc : ((0 ≤ f ∧ f < X 121 0 * X 121 1) ∧ (0 ≤ to ∧ to < X 121 0 * X 121 1)) ∧ (1 ≤ k ∧ k ≤ 3)
  · obtain ⟨⟨g1, g2⟩, g3⟩ := gc
    obtain ⟨k, rfl⟩ : ∃ n : Nat, k = (n : Int) + 1 := ⟨(k - 1).toNat, by omega⟩
    obtain ⟨wy, hwy⟩ := wy_ex (fun a => WAYP (X 121) (ND (X 121)) f to a)
    have hl : ∀ b : Int, 0 ≤ b → b < X 121 2 → LE (X 121) b (X (X 2 0 + 9) b) := fun b b0 b1 => n2.2.2.2.2.2.1 b b0 b1
    obtain ⟨v, Y1, Y2, Y3, e1, e2, e3, e4, e5, e6, e7⟩ := begun h (k := k + 1) (by omega) g1 g2
    have e52 : (51 : Int) + ((k + 1 : Nat) : Int) = 52 + k := by omega
    rw [e52] at e6 e7
    have e3 : f_X6_begin 2 ((k : Int) + 1) Y2 = some (0, Y3) := e3
    obtain ⟨b, Y4, w1, w2, w3⟩ := firstBest_7 (r := X 2 0) (w := Y3 (52 + k)) (k := k) n3 (fun a _ _ => hwy a) (by omega) hl e6 (by decide) (p608 (by omega)) KF 0 (-1) 0 Y3 (by decide) n3.2.1.1 (by rw [KF_eq]; have := n3.2.1; omega) e5 rfl (Or.inl ⟨rfl, fun c _ _ => by omega⟩) (fun h => absurd rfl h) (by decide)
    have w1 : f_X6_firstBest ((k : Int) + 1) Y3 = some (b, Y4) := w1
    rw [bwv_ext e7] at w2
    have hbr : -1 ≤ b ∧ b < 5 := by
      have := n3.2.1
      rcases w2 with ⟨h1, -⟩ | ⟨⟨h1, h2⟩, -⟩ <;> omega
    have hY4 : ∀ i j : Int, ¬ SCR i j → Y4 i j = X i j := fun i j hs => by
      rw [w3 i (by unfold SCR at hs; omega) (by unfold SCR at hs; omega)]
      exact e4 i j hs
    have hc : ∀ v : Int, BD (ms Y4 0 16 v 121) ∧ ms Y4 0 16 v 121 = X 121 ∧ CK cn (ms Y4 0 16 v) := fun v => h.scr (Y := ms Y4 0 16 v) (fun i j q1 q2 => by rw [ms_at, if_neg (by unfold ANS at q2; omega)]; exact hY4 i j q1)
    have ec : f_X11_next f to ((k : Int) + 1) X = if b ≠ -1 then some (b, ms Y4 0 16 0) else some (-1, ms Y4 0 16 6) := by
      unfold f_X11_next
      rw [isCell_eq n1 n2 n3 hf, if_pos g1, cl_some, c1_okk (by decide) (by decide), if_neg (by decide), isCell_eq n1 n2 n3 ht, if_pos g2, cl_some, c1_okk (by decide) (by decide), if_neg (by decide), c2_ok (by omega) (by omega) (by decide) (by decide), if_neg (by omega), c2_ok (by omega) (by omega) (by decide) (by decide), if_pos (by omega), cm_ok n1, e1, cl_some, e2, cl_some, e3, cl_some, w1, cl_some, c2_ok (by omega) (by omega) (by decide) (by decide)]
      by_cases g : b = -1
      · rw [if_neg (by simpa using g), if_neg (by simpa using g), fail_eq, cl_some]
      · rw [if_pos g, if_pos g, answer_eq, cl_some]
    have em : ∀ v : Int, ∃ Z : Mem, f_X12_next f to ((k : Int) + 1) (ms Y4 0 16 v) = (if b ≠ -1 then some (b, ms Z 120 2 0) else some (-1, ms Z 120 2 6)) ∧ (∀ i j : Int, ¬ SCR i j → ¬ CKC i j → Z i j = ms Y4 0 16 v i j) ∧ CK cn Z := fun v => by
      obtain ⟨b1, b2, b3⟩ := hc v
      obtain ⟨b', Z, z0, z1, z2, z3⟩ := nextm_eq (P := X 18) (l := X (X 2 0 + 9)) (wy := wy) (k := k) b1 b3 (by omega) (by omega) (by rw [b2]; exact n6) hf ht (by rw [b2]; exact g1) (by rw [b2]; exact g2) (by rw [b2]; exact fun a _ _ => hwy a) (by rw [b2]; exact hl)
      rw [b2] at z0
      rw [FBB_u z0 w2] at z1
      exact ⟨Z, z1, z2, z3⟩
    by_cases g : b = -1
    · rw [if_neg (by simpa using g)] at ec
      obtain ⟨Z, z1, z2, z3⟩ := em 6
      rw [if_neg (by simpa using g)] at z1
      exact out_scr h hY4 (r := -1) (v := 6) (by decide) (by decide) inI_m1 ec ⟨Z, z1, z2, z3⟩
    · rw [if_pos g] at ec
      obtain ⟨Z, z1, z2, z3⟩ := em 0
      rw [if_pos g] at z1
      exact out_scr h hY4 (r := b) (v := 0) (by decide) (by decide) (inI_s (by omega) (by omega)) ec ⟨Z, z1, z2, z3⟩
  · refine out_st h (r := -1) (v := 1) (by decide) (by decide) inI_m1 ?_ ?_
    · have er : ∀ Y : Mem, B_X11_next_26 Y = some (-1, ms Y 0 16 1) := fun Y => by
        rw [B_X11_next_26, fail_eq, cl_some]
      unfold f_X11_next
      rw [isCell_eq n1 n2 n3 hf, cl_some]
      by_cases g1 : 0 ≤ f ∧ f < X 121 0 * X 121 1
      · rw [if_pos g1, c1_okk (by decide) (by decide), if_neg (by decide), isCell_eq n1 n2 n3 ht, cl_some]
        by_cases g2 : 0 ≤ to ∧ to < X 121 0 * X 121 1
        · rw [if_pos g2, c1_okk (by decide) (by decide), if_neg (by decide), c2_ok hk.1 hk.2 (by decide) (by decide)]
          by_cases g3 : k < 1
          · rw [if_pos g3, er]
          · rw [if_neg g3, c2_ok hk.1 hk.2 (by decide) (by decide), if_neg (fun g4 => gc ⟨⟨g1, g2⟩, by omega, g4⟩), er]
        · rw [if_neg g2, c1_okk (by decide) (by decide), if_pos rfl, er]
      · rw [if_neg g1, c1_okk (by decide) (by decide), if_pos rfl, er]
    · have er : ∀ Y : Mem, B_X12_next_19 Y = some (-1, ms Y 120 2 1) := fun Y => by
        rw [B_X12_next_19, refusem_eq, cl_some]
      unfold f_X12_next
      rw [areCells_eq (by rw [eM]; exact n3) hf ht, eM, cl_some]
      by_cases g1 : (0 ≤ f ∧ f < X 121 0 * X 121 1) ∧ (0 ≤ to ∧ to < X 121 0 * X 121 1)
      · rw [if_pos g1, c1_okk (by decide) (by decide), if_neg (by decide), c2_ok hk.1 hk.2 (by decide) (by decide)]
        by_cases g3 : k < 1
        · rw [if_pos g3, er]
        · rw [if_neg g3, c2_ok hk.1 hk.2 (by decide) (by decide), if_neg (fun g4 => gc ⟨g1, by omega, g4⟩), er]
      · rw [if_neg g1, c1_okk (by decide) (by decide), if_pos rfl, er]
