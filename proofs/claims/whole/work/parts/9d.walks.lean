/-! the reference walks -/
theorem walks_59 {A M O : Int → Int} {nd a to c hb : Int} {V : Int → Int → Int} {Z : Mem} (hB : BD A) (zA : Z 121 = A) (zM : Z 132 = M) (zO : Z 133 = O) (hM : ∀ c h : Int, 0 ≤ c → c < A 0 * A 1 → 0 ≤ h → h < 9 → M (9 * c + h) = V c h) (hO : ∀ d : Int, 0 ≤ d → d < A 0 * A 1 → (opn A nd a d → O d = 1) ∧ (¬ opn A nd a d → O d = 0)) (hF : FIX A nd a to V) (c0 : 0 ≤ c) (c1 : c < A 0 * A 1) (b0 : 0 ≤ hb) (b1 : hb < 9) (go : Int → Int → Mem → Option (Int × Mem)) : ∀ (k : Nat) (j best bY : Int), 0 ≤ j → j ≤ 8 → (8 - j).toNat < k → ((best = -1 ∧ ∀ g n : Int, g < j → ¬ sp1 A nd a V c hb n g) ∨ (best = ld A c bY ∧ bY < j ∧ (∃ n, sp1 A nd a V c hb n bY) ∧ ∀ g n : Int, g < j → sp1 A nd a V c hb n g → ld A c bY ≤ ld A c g)) →
    ∃ best' bY' : Int, L_X12_walks_59 go k to hb c best bY j Z = B_X12_walks_182 go to best' bY' Z ∧ ((∀ g n : Int, ¬ sp1 A nd a V c hb n g) ∨ (best' = ld A c bY' ∧ BST A nd a V c hb bY')) := by
  have hcl := BD_cells hB
  have hw := (BD_w hB c0 c1).1
  intro k
  induction k with
  | zero => intro j best bY _ _ hk; omega
  | succ k ih =>
    intro j best bY j0 j1 hk hI
    rw [L_X12_walks_59, c2_ok (by omega) (by omega) (by decide) (by decide)]
    by_cases g : 8 ≤ j
    · rw [if_pos g]
      refine ⟨best, bY, rfl, ?_⟩
      rcases hI with ⟨-, h⟩ | ⟨h1, h2, h3, h4⟩
      · exact Or.inl fun g' n s => h g' n (by have := s.1.2; omega) s
      · exact Or.inr ⟨h1, h3, fun g' n s => h4 g' n (by have := s.1.2; omega) s⟩
    · have hL := leads_eq (X := Z) (by rw [zA]; exact hB) (c := c) (h := j) c0 (by rw [zA]; exact c1) j0 (by omega)
      rw [zA] at hL
      have hlr : -1 ≤ ld A c j ∧ ld A c j < 60 := by
        by_cases en : ld A c j = -1
        · omega
        · have := ld_r hB en
          omega
      have hbest : -1 ≤ best ∧ best < 60 := by
        rcases hI with ⟨h, -⟩ | ⟨h, -, ⟨n, s⟩, -⟩
        · omega
        · have := ld_r hB s.2.1
          omega
      have skip : (∀ n : Int, ¬ sp1 A nd a V c hb n j) → ∃ best' bY' : Int, B_X12_walks_176 go (fun x2 x4 x5 x6 x7 x8 X => L_X12_walks_59 go k x2 x4 x5 x6 x7 x8 X) to hb c best bY j Z = B_X12_walks_182 go to best' bY' Z ∧ ((∀ g n : Int, ¬ sp1 A nd a V c hb n g) ∨ (best' = ld A c bY' ∧ BST A nd a V c hb bY')) := by
        intro hno
        rw [B_X12_walks_176]
        refine ih (j + 1) best bY (by omega) (by omega) (by omega) ?_
        rcases hI with ⟨h1, h2⟩ | ⟨h1, h2, h3, h4⟩
        · refine Or.inl ⟨h1, fun g' n hg s => ?_⟩
          by_cases e : g' = j
          · rw [e] at s
            exact hno n s
          · exact h2 g' n (by omega) s
        · refine Or.inr ⟨h1, by omega, h3, fun g' n hg s => ?_⟩
          by_cases e : g' = j
          · rw [e] at s
            exact absurd s (hno n)
          · exact h4 g' n (by omega) s
      rw [if_neg g, hL, cl_some, c2_ok (by omega) (by omega) (by decide) (by decide)]
      by_cases en : ld A c j = -1
      · rw [if_pos en]
        exact skip fun n s => s.2.1 en
      · have hr := ld_r hB en
        obtain ⟨o1, o2⟩ := hO _ hr.1 hr.2
        rw [if_neg en, ax_ok hr.1 (by omega), zO]
        by_cases eo : opn A nd a (ld A c j)
        · have hMn := hM _ j hr.1 hr.2 j0 (by omega)
          have hMc := hM c hb c0 c1 b0 b1
          have hVr := (hF _ hr.1 hr.2 j j0 (by omega)).1
          have hVc := (hF c c0 c1 hb b0 b1).1
          unfold FAR at hVr hVc
          have hst := stp_r hB (g := j)
          have htr := trn_r hB (h := hb) (g := j) b0 b1 j0 (by omega)
          rw [o1 eo, c1_ok (by decide) (by decide), if_neg (by decide), ax_ok (by omega) (by omega), zM, hMn, c2_ok (by omega) (by omega) (by decide) (by decide)]
          by_cases eV : V (ld A c j) j = 100000000
          · rw [if_pos eV]
            exact skip fun n s => s.2.2.2.2.1 (by rw [s.2.2.1]; exact eV)
          · have hsm := stepm_eq (X := Z) (by rw [zA]; exact hB) b0 b1 j0 (show j < 8 by omega)
            rw [zA] at hsm
            rw [if_neg eV, hsm, cl_some, ax_ok (by omega) (by omega), ax_ok (by omega) (by omega), zM, hMn, hMc, c2_ok (by omega) (by omega) (by omega) (by omega)]
            by_cases ee : stp A j + trn A hb j + V (ld A c j) j = V c hb
            · have hsp : sp1 A nd a V c hb (ld A c j) j := ⟨⟨j0, by omega⟩, en, rfl, eo, eV, ee.symm⟩
              rw [if_pos ee, c2_ok (by omega) (by omega) (by decide) (by decide)]
              have take : (∀ g' n : Int, g' < j → sp1 A nd a V c hb n g' → ld A c j ≤ ld A c g') → ∃ best' bY' : Int, B_X12_walks_168 go (fun x2 x4 x5 x6 x7 x8 X => L_X12_walks_59 go k x2 x4 x5 x6 x7 x8 X) to hb c j (ld A c j) Z = B_X12_walks_182 go to best' bY' Z ∧ ((∀ g n : Int, ¬ sp1 A nd a V c hb n g) ∨ (best' = ld A c bY' ∧ BST A nd a V c hb bY')) := by
                intro hle
                rw [B_X12_walks_168, B_X12_walks_176]
                refine ih (j + 1) _ _ (by omega) (by omega) (by omega) (Or.inr ⟨rfl, by omega, ⟨_, hsp⟩, fun g' n hg s => ?_⟩)
                by_cases e : g' = j
                · rw [e]
                  exact Int.le_refl _
                · exact hle g' n (by omega) s
              by_cases e1 : best = -1
              · rw [if_pos e1]
                refine take fun g' n hg s => ?_
                rcases hI with ⟨h1, h2⟩ | ⟨h1, h2, ⟨n3, h3⟩, h4⟩
                · exact absurd s (h2 g' n hg)
                · have := h3.2.1
                  omega
              · rw [if_neg e1, c2_ok (by omega) (by omega) (by omega) (by omega)]
                by_cases e2 : ld A c j < best
                · rw [if_pos e2]
                  refine take fun g' n hg s => ?_
                  rcases hI with ⟨h1, h2⟩ | ⟨h1, h2, h3, h4⟩
                  · exact absurd s (h2 g' n hg)
                  · have := h4 g' n hg s
                    omega
                · rw [if_neg e2, B_X12_walks_176]
                  refine ih (j + 1) best bY (by omega) (by omega) (by omega) ?_
                  rcases hI with ⟨h1, h2⟩ | ⟨h1, h2, h3, h4⟩
                  · exact absurd h1 e1
                  · refine Or.inr ⟨h1, by omega, h3, fun g' n hg s => ?_⟩
                    by_cases e : g' = j
                    · rw [e]
                      omega
                    · exact h4 g' n (by omega) s
            · rw [if_neg ee]
              refine skip fun n s => ee ?_
              have := s.2.2.2.2.2
              rw [s.2.2.1] at this
              exact this.symm
        · rw [o2 eo, c1_ok (by decide) (by decide), if_pos rfl]
          exact skip fun n s => eo (by rw [← s.2.2.1]; exact s.2.2.2.1)
theorem walks_22 {A M O : Int → Int} {nd a f to n : Int} {V : Int → Int → Int} {kc hd : Int → Int} (hB : BD A) (hM : ∀ c h : Int, 0 ≤ c → c < A 0 * A 1 → 0 ≤ h → h < 9 → M (9 * c + h) = V c h) (hO : ∀ d : Int, 0 ≤ d → d < A 0 * A 1 → (opn A nd a d → O d = 1) ∧ (¬ opn A nd a d → O d = 0)) (hF : FIX A nd a to V) (t0 : 0 ≤ to) (t1 : to < A 0 * A 1) (hW : WLK A nd a f to V n kc hd) : ∀ (k : Nat) (j : Int) (Z : Mem), 0 ≤ j → j < n → (n - j).toNat < k → Z 121 = A → Z 132 = M → Z 133 = O → Z 120 36 = j + 1 → (∀ i : Int, 0 ≤ i → i ≤ j → Z 135 i = kc i) →
    ∃ Y : Mem, L_X12_walks_22 k to (hd j) Z = some (0, Y) ∧ (∀ i : Int, i ≠ 120 → i ≠ 135 → Y i = Z i) ∧ (∀ q : Int, q ≠ 36 → Y 120 q = Z 120 q) ∧ Y 120 36 = n ∧ ∀ i : Int, 0 ≤ i → i < n → Y 135 i = kc i := by
  have hcl := BD_cells hB
  have hw := (BD_w hB t0 t1).1
  obtain ⟨⟨n0, n1⟩, k0, h0, hs, ke, kr⟩ := hW
  have hhd : ∀ j : Int, 0 ≤ j → j < n → 0 ≤ hd j ∧ hd j < 9 := by
    intro j j0 j1
    by_cases e : j = 0
    · rw [e, h0]
      decide
    · obtain ⟨-, ⟨⟨n', sp⟩, -⟩, -⟩ := hs (j - 1) (by omega) (by omega)
      rw [show j - 1 + 1 = j by omega] at sp
      have := sp.1
      omega
  intro k
  induction k with
  | zero => intro j Z _ _ hk; omega
  | succ k ih =>
    intro j Z j0 j1 hk zA zM zO z36 z135
    have hkc := kr j j0 j1
    rw [L_X12_walks_22, z36, show j + 1 - 1 = j by omega, ax_ok j0 (by omega), z135 j j0 (Int.le_refl _), c2_ok (by omega) (by omega) (by omega) (by omega)]
    by_cases g : kc j = to
    · have e : j = n - 1 := by
        by_cases e : j + 1 < n
        · exact absurd g (hs j j0 e).1
        · omega
      rw [if_pos g]
      exact ⟨Z, rfl, fun _ _ _ => rfl, fun _ _ => rfl, by omega, fun i i0 i1 => z135 i i0 (by omega)⟩
    · have e : j + 1 < n := by
        by_cases e : j + 1 < n
        · exact e
        · rw [show j = n - 1 by omega] at g
          exact absurd ke g
      obtain ⟨-, hb, hk1⟩ := hs j j0 e
      have hhj := hhd j j0 j1
      obtain ⟨best, bY, e1, e2⟩ := walks_59 (Z := Z) hB zA zM zO hM hO hF hkc.1 hkc.2 hhj.1 hhj.2 (fun x2 x4 X => L_X12_walks_22 k x2 x4 X) KF 0 (-1) (-1) (by decide) (by decide) (by rw [KF_eq]; decide) (Or.inl ⟨rfl, fun g n hg s => by have := s.1.1; omega⟩)
      rw [if_neg g, ax_ok j0 (by omega), bd_eq, e1, B_X12_walks_182, z36, ax_ok (by omega) (by omega), bd_eq, bd_eq, ms_ne (i := 135) (by decide), z36]
      rcases e2 with e2 | ⟨e2, e3⟩
      · obtain ⟨⟨n', sp⟩, -⟩ := hb
        exact absurd sp (e2 _ _)
      · have eb : bY = hd (j + 1) := e3.u (by omega) hb
        rw [eb] at e2 ⊢
        obtain ⟨Z', hZ'⟩ : ∃ Z' : Mem, ms (ms Z 135 (j + 1) best) 120 36 (j + 1 + 1) = Z' := ⟨_, rfl⟩
        have z0 : ∀ i : Int, i ≠ 120 → i ≠ 135 → Z' i = Z i := fun i x y => by rw [← hZ', ms_ne x, ms_ne y]
        have z1 : ∀ q : Int, q ≠ 36 → Z' 120 q = Z 120 q := fun q x => by rw [← hZ', ms_k x, ms_ne (by decide)]
        rw [hZ']
        obtain ⟨Y, i1, i2, i3, i4, i5⟩ := ih (j + 1) Z' (by omega) e (by omega) (by rw [z0 _ (by decide) (by decide)]; exact zA) (by rw [z0 _ (by decide) (by decide)]; exact zM) (by rw [z0 _ (by decide) (by decide)]; exact zO) (by rw [← hZ', ms_s]) (fun i x y => by
          rw [← hZ', ms_ne (by decide), ms_at]
          by_cases q : i = j + 1
          · rw [if_pos ⟨rfl, q⟩, q, hk1, e2]
          · rw [if_neg (fun w => q w.2)]
            exact z135 i x (by omega))
        exact ⟨Y, i1, fun i x y => by rw [i2 i x y, z0 i x y], fun q x => by rw [i3 q x, z1 q x], i4, i5⟩
theorem walks_eq {X : Mem} {f to a n : Int} {V : Int → Int → Int} {kc hd : Int → Int} (hB : BD (X 121)) (ha : inI a) (t0 : 0 ≤ to) (t1 : to < X 121 0 * X 121 1) (hF : FIX (X 121) (ND (X 121)) a to V) (hW : WLK (X 121) (ND (X 121)) a f to V n kc hd) :
    ∃ Y : Mem, f_X12_walks f to a X = some (0, Y) ∧ (∀ i : Int, i ≠ 120 → i ≠ 132 → i ≠ 133 → i ≠ 135 → Y i = X i) ∧ (∀ q : Int, q ≠ 36 → Y 120 q = X 120 q) ∧ Y 120 36 = n ∧ ∀ i : Int, 0 ≤ i → i < n → Y 135 i = kc i := by
  obtain ⟨O, M, e1, e2, e3⟩ := reckons_eq hB t0 t1 ha
  unfold f_X12_walks
  rw [e1, cl_some, ax_ok (by decide) (by decide), bd_eq, bd_eq]
  obtain ⟨Z, hZ⟩ : ∃ Z : Mem, ms (ms (rk X O M) 135 0 f) 120 36 1 = Z := ⟨_, rfl⟩
  have z0 : ∀ i : Int, i ≠ 120 → i ≠ 132 → i ≠ 133 → i ≠ 135 → Z i = X i := fun i x y z w => by rw [← hZ, ms_ne x, ms_ne w, rk_o y z]
  have z1 : ∀ q : Int, q ≠ 36 → Z 120 q = X 120 q := fun q x => by rw [← hZ, ms_k x, ms_ne (by decide), rk_o (by decide) (by decide)]
  rw [hZ]
  obtain ⟨⟨n0, n1⟩, k0, h0, -⟩ := id hW
  obtain ⟨Y, i1, i2, i3, i4, i5⟩ := walks_22 (M := M) (O := O) hB (fun c h c0 c1 h0 h1 => FIX_u hB e2 hF c0 c1 h0 h1) e3 hF t0 t1 hW KF 0 Z (by decide) (by omega) (by rw [KF_eq]; omega) (z0 121 (by decide) (by decide) (by decide) (by decide)) (by rw [← hZ, ms_ne (by decide), ms_ne (by decide), rk_132]) (by rw [← hZ, ms_ne (by decide), ms_ne (by decide), rk_133]) (by rw [← hZ, ms_s]; rfl) (fun i x y => by rw [show i = 0 by omega, ← hZ, ms_ne (by decide), ms_s, k0])
  rw [h0] at i1
  refine ⟨Y, i1, fun i x y z w => ?_, fun q x => by rw [i3 q x, z1 q x], i4, i5⟩
  rw [i2 i x w, z0 i x y z w]
