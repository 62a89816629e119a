/-! which way -/
theorem RFU.v {A : Int → Int} {nd a to : Int} {V : Int → Int → Int} (hB : BD A) (hF : FIX A nd a to V) (hto : opn A nd a to) {R : Int → Int} (h : RFU A nd a to V R) {d k : Int} (d0 : 0 ≤ d) (d1 : d < A 0 * A 1) (k0 : 0 ≤ k) (k1 : k < 8) : (opn A nd a d ∧ V d k ≠ FAR → R (d * 8 + k) = V d k) ∧ (¬ (opn A nd a d ∧ V d k ≠ FAR) → R (d * 8 + k) = 1000000000) := by
  obtain ⟨hJ, h2⟩ := h
  refine ⟨fun q => h2 d d0 d1 q.1 k k0 k1 q.2, fun q => ?_⟩
  obtain ⟨j1, j2, j3⟩ := hJ d d0 d1 k k0 k1
  by_cases e : d = to
  · exfalso
    apply q
    rw [e, (hF to (by omega) (by omega) k k0 (by omega)).2.1 hto rfl]
    exact ⟨hto, by decide⟩
  · rcases j3 e with f | ⟨f1, f2, -⟩
    · exact f
    · exact absurd ⟨f1, f2⟩ q
def BYC (j : Int) : Int := tl (tRow.getD 2 []) j
theorem BYC_v : ∀ j : Fin 8, 0 ≤ BYC (j.val : Int) ∧ BYC (j.val : Int) < 8 := by decide +kernel
theorem BYC_all : ∀ g : Fin 8, ∃ j : Fin 8, BYC (j.val : Int) = g.val := by decide +kernel
theorem BYC_ord : ∀ i j : Fin 8, i.val < j.val → dys (BYC (i.val : Int)) < dys (BYC (j.val : Int)) ∨ (dys (BYC (i.val : Int)) = dys (BYC (j.val : Int)) ∧ dxs (BYC (i.val : Int)) < dxs (BYC (j.val : Int))) := by decide +kernel
theorem ld_ord {A : Int → Int} {c g h : Int} (hw : 0 < A 0) (h1 : ld A c g ≠ -1) (h2 : ld A c h ≠ -1) (ho : dys g < dys h ∨ (dys g = dys h ∧ dxs g < dxs h)) : ld A c g < ld A c h := by
  unfold ld at *
  split at h1
  · rename_i p1
    split at h2
    · rename_i p2
      rw [if_pos p1, if_pos p2]
      generalize c % A 0 = x at *
      generalize c / A 0 = y at *
      rcases ho with o | ⟨o1, o2⟩
      · have : A 0 * (y + dys g + 1) ≤ A 0 * (y + dys h) := Int.mul_le_mul_of_nonneg_left (by omega) (by omega)
        rw [Int.mul_add (A 0) (y + dys g) 1, Int.mul_one] at this
        omega
      · rw [o1]
        omega
    · exact absurd rfl h2
  · exact absurd rfl h1
theorem ld_inj {A : Int → Int} {c g h : Int} (hw : 0 < A 0) (g0 : 0 ≤ g) (g1 : g < 8) (h0 : 0 ≤ h) (h1 : h < 8) (hn : ld A c g ≠ -1) (e : ld A c g = ld A c h) : g = h := by
  obtain ⟨g, rfl⟩ := fin8 g0 g1
  obtain ⟨h, rfl⟩ := fin8 h0 h1
  have hn2 : ld A c (h.val : Int) ≠ -1 := by rw [← e]; exact hn
  have key := (by decide +kernel : ∀ g h : Fin 8, g = h ∨ (dys (g.val : Int) < dys (h.val : Int) ∨ (dys (g.val : Int) = dys (h.val : Int) ∧ dxs (g.val : Int) < dxs (h.val : Int))) ∨ (dys (h.val : Int) < dys (g.val : Int) ∨ (dys (h.val : Int) = dys (g.val : Int) ∧ dxs (h.val : Int) < dxs (g.val : Int)))) g h
  rcases key with k | k | k
  · rw [k]
  · have := ld_ord hw hn hn2 k
    omega
  · have := ld_ord hw hn2 hn k
    omega
section BST
variable {A : Int → Int} {nd a to : Int} {V : Int → Int → Int}
/-- the heading taken: of several as soon that to the least cell -/
def BST (A : Int → Int) (nd a : Int) (V : Int → Int → Int) (c h g : Int) : Prop := (∃ n, sp1 A nd a V c h n g) ∧ ∀ g' n' : Int, sp1 A nd a V c h n' g' → ld A c g ≤ ld A c g'
theorem BST.u (hw : 0 < A 0) {c h g g' : Int} (h1 : BST A nd a V c h g) (h2 : BST A nd a V c h g') : g = g' := by
  obtain ⟨⟨n, s1⟩, m1⟩ := h1
  obtain ⟨⟨n', s2⟩, m2⟩ := h2
  have e1 := m1 g' n' s2
  have e2 := m2 g n s1
  exact ld_inj hw s1.1.1 s1.1.2 s2.1.1 s2.1.2 s1.2.1 (Int.le_antisymm e1 e2)
end BST
theorem sh_23 {Y : Mem} {A : Int → Int} {nd r a to c b hb : Int} {V : Int → Int → Int} (hB : BD A) (hG : GL A nd r Y) (hF : FIX A nd a to V) (hto : opn A nd a to) (hR : RFU A nd a to V (Y 47)) (c0 : 0 ≤ c) (c1 : c < A 0 * A 1) (hbb : (b = -1 ∧ hb = 8) ∨ (b = hb ∧ 0 ≤ b ∧ b < 8)) : ∀ (k j : Nat) (s l : Int), j ≤ 8 → 8 - j < k → ((l = 1000000000 ∧ ∀ i : Nat, i < j → 1000000000 ≤ mby A (Y 47) c (BYC i) + trn A hb (BYC i)) ∨ (l < 1000000000 ∧ ∃ i : Nat, i < j ∧ s = BYC i ∧ l = mby A (Y 47) c (BYC i) + trn A hb (BYC i) ∧ (∀ i' : Nat, i' < j → l ≤ mby A (Y 47) c (BYC i') + trn A hb (BYC i')) ∧ ∀ i' : Nat, i' < i → l < mby A (Y 47) c (BYC i') + trn A hb (BYC i'))) →
    ∃ g l' : Int, L_X1_soonestHeading_23 k c b s l 8 j Y = some (g, Y) ∧ ((∀ i : Nat, i < 8 → 1000000000 ≤ mby A (Y 47) c (BYC i) + trn A hb (BYC i)) ∨ (l' < 1000000000 ∧ ∃ i : Nat, i < 8 ∧ g = BYC i ∧ l' = mby A (Y 47) c (BYC i) + trn A hb (BYC i) ∧ (∀ i' : Nat, i' < 8 → l' ≤ mby A (Y 47) c (BYC i') + trn A hb (BYC i')) ∧ ∀ i' : Nat, i' < i → l' < mby A (Y 47) c (BYC i') + trn A hb (BYC i'))) := by
  obtain ⟨q1, q2, q3, -⟩ := id hG
  intro k
  induction k with
  | zero => intro j s l _ hk; omega
  | succ k ih =>
    intro j s l hj hk hI
    rw [L_X1_soonestHeading_23, c2_ok (by omega) (by omega) (by decide) (by decide)]
    by_cases g : 8 ≤ (j : Int)
    · rw [if_pos g]
      rw [show j = 8 by omega] at hI
      refine ⟨s, l, rfl, ?_⟩
      rcases hI with ⟨-, h⟩ | h
      · exact Or.inl h
      · exact Or.inr h
    · have hb8 := BYC_v ⟨j, by omega⟩
      have hm := mby_eq (Y := Y) (c := c) (h := BYC j) hB q1 q2 q3 hR.1.rr c0 c1 hb8.1 hb8.2
      have hst := stp_r hB (g := BYC j)
      have htr := trn_r hB (h := hb) (g := BYC j) (by omega) (by omega) hb8.1 hb8.2
      have hmr : 0 ≤ mby A (Y 47) c (BYC j) ∧ mby A (Y 47) c (BYC j) ≤ 1000000099 := by
        unfold mby
        split
        · omega
        · rename_i hn
          have hl := ld_r hB hn
          have := hR.1.rr _ hl.1 hl.2 (BYC j) hb8.1 hb8.2
          split <;> omega
      have ht : f_X2_turnMinutes r b (BYC j) Y = some (trn A hb (BYC j), Y) := by
        rcases hbb with ⟨e1, e2⟩ | ⟨e1, e2, e3⟩
        · rw [e1, e2]
          exact turnc_m1
        · rw [← e1]
          exact turnc_eq q2 e2 e3 hb8.1 hb8.2
      rw [if_neg g, ax_ok (by omega) (by omega), bd_eq, show tl (tRow.getD 2 []) (j : Int) = BYC j from rfl, hm, cl_some, q3, cm_ok q1, ht, cl_some, bd_eq]
      have hlr : l ≤ 1000000000 ∧ -2147483648 ≤ l := by
        rcases hI with ⟨h, -⟩ | ⟨h, i, hij, -, h2, h3, -⟩
        · omega
        · refine ⟨by omega, ?_⟩
          have hbi := BYC_v ⟨i, by omega⟩
          have := (trn_r hB (h := hb) (g := BYC i) (by omega) (by omega) hbi.1 hbi.2).1
          have hmi : 0 ≤ mby A (Y 47) c (BYC i) := by
            unfold mby
            split
            · omega
            · rename_i hn
              have hl := ld_r hB hn
              have := (hR.1.rr _ hl.1 hl.2 (BYC i) hbi.1 hbi.2).1
              have := (stp_r hB (g := BYC i)).1
              split <;> omega
          omega
      rw [c2_ok (by omega) (by omega) (by omega) (by omega)]
      by_cases g2 : l ≤ mby A (Y 47) c (BYC j) + trn A hb (BYC j)
      · rw [if_pos g2, B_X1_soonestHeading_71, show (j : Int) + 1 = ((j + 1 : Nat) : Int) from rfl]
        refine ih (j + 1) s l (by omega) (by omega) ?_
        rcases hI with ⟨h1, h2⟩ | ⟨h1, i, h2, h3, h4, h5, h6⟩
        · refine Or.inl ⟨h1, fun i hi => ?_⟩
          by_cases e : i = j
          · rw [e]
            omega
          · exact h2 i (by omega)
        · refine Or.inr ⟨h1, i, by omega, h3, h4, fun i' hi' => ?_, h6⟩
          by_cases e : i' = j
          · rw [e]
            exact g2
          · exact h5 i' (by omega)
      · rw [if_neg g2, B_X1_soonestHeading_71, show (j : Int) + 1 = ((j + 1 : Nat) : Int) from rfl]
        refine ih (j + 1) _ _ (by omega) (by omega) (Or.inr ⟨by omega, j, by omega, rfl, rfl, fun i' hi' => ?_, fun i' hi' => ?_⟩)
        · by_cases e : i' = j
          · rw [e]
            exact Int.le_refl _
          · rcases hI with ⟨h1, h2⟩ | ⟨h1, i, h2, h3, h4, h5, h6⟩
            · have := h2 i' (by omega)
              omega
            · have := h5 i' (by omega)
              omega
        · rcases hI with ⟨h1, h2⟩ | ⟨h1, i, h2, h3, h4, h5, h6⟩
          · have := h2 i' (by omega)
            omega
          · have := h5 i' (by omega)
            omega
/-- the heading that the class takes -/
theorem sh_eq {Y : Mem} {A : Int → Int} {nd r a to c b hb : Int} {V : Int → Int → Int} (hB : BD A) (hG : GL A nd r Y) (hF : FIX A nd a to V) (hto : opn A nd a to) (hR : RFU A nd a to V (Y 47)) (c0 : 0 ≤ c) (c1 : c < A 0 * A 1) (hbb : (b = -1 ∧ hb = 8) ∨ (b = hb ∧ 0 ≤ b ∧ b < 8)) (ho : opn A nd a c) (hct : c ≠ to) (hV : V c hb ≠ FAR) : ∃ g : Int, f_X1_soonestHeading c b Y = some (g, Y) ∧ BST A nd a V c hb g ∧ mby A (Y 47) c g + trn A hb g = V c hb := by
  have hw := (BD_w hB c0 c1).1
  have hbr : 0 ≤ hb ∧ hb < 9 := by omega
  -- the number of a heading
  have val : ∀ g : Int, 0 ≤ g → g < 8 → (∀ n' : Int, sp1 A nd a V c hb n' g → mby A (Y 47) c g + trn A hb g = V c hb) ∧ (mby A (Y 47) c g + trn A hb g < 1000000000 → V c hb ≤ mby A (Y 47) c g + trn A hb g ∧ (mby A (Y 47) c g + trn A hb g = V c hb → sp1 A nd a V c hb (ld A c g) g)) := by
    intro g g0 g1
    have hst := stp_r hB (g := g)
    have htr := trn_r hB (h := hb) (g := g) hbr.1 hbr.2 g0 g1
    constructor
    · rintro n' ⟨-, e1, e2, e3, e4, e5⟩
      have hr := ld_r hB e1
      have hv := (hR.v hB hF hto hr.1 hr.2 g0 g1).1 ⟨by rw [← e2]; exact e3, by rw [← e2]; exact e4⟩
      have hb4 := V_b hB hF hr.1 hr.2 g0 (show g < 9 by omega) (by rw [← e2]; exact e3) (by rw [← e2]; exact e4)
      unfold mby
      rw [if_neg e1, hv, if_pos (by omega), e5, e2]
      omega
    · intro hlt
      unfold mby at hlt ⊢
      by_cases e1 : ld A c g = -1
      · rw [if_pos e1] at hlt
        omega
      · rw [if_neg e1] at hlt ⊢
        have hr := ld_r hB e1
        obtain ⟨v1, v2⟩ := hR.v hB hF hto hr.1 hr.2 g0 g1
        by_cases e2 : opn A nd a (ld A c g) ∧ V (ld A c g) g ≠ FAR
        · have hb4 := V_b hB hF hr.1 hr.2 g0 (show g < 9 by omega) e2.1 e2.2
          have h4 := ((hF c c0 c1 hb hbr.1 hbr.2).2.2.2 ho hct).1 g g0 g1 e1 e2.1 e2.2
          rw [v1 e2, if_pos (by omega)]
          exact ⟨by omega, fun q => ⟨⟨g0, g1⟩, e1, rfl, e2.1, e2.2, by omega⟩⟩
        · rw [v2 e2, if_neg (by omega)] at hlt
          omega
  unfold f_X1_soonestHeading
  rw [ax_ok (by decide) (by decide), bd_eq]
  obtain ⟨g, l', h1, h2⟩ := sh_23 (Y := Y) hB hG hF hto hR c0 c1 hbb KF 0 (tl (tRow.getD 2 []) 0) 1000000000 (by decide) (by rw [KF_eq]; decide) (Or.inl ⟨rfl, fun i hi => by omega⟩)
  refine ⟨g, h1, ?_⟩
  obtain ⟨g', g0', g1', e1, e2, e3, e4⟩ : ∃ g' : Int, 0 ≤ g' ∧ g' < 8 ∧ ld A c g' ≠ -1 ∧ opn A nd a (ld A c g') ∧ V (ld A c g') g' ≠ FAR ∧ V c hb = stp A g' + trn A hb g' + V (ld A c g') g' := by
    rcases ((hF c c0 c1 hb hbr.1 hbr.2).2.2.2 ho hct).2 with q | q
    · exact absurd q hV
    · exact q
  have hv' := (val g' g0' g1').1 _ ⟨⟨g0', g1'⟩, e1, rfl, e2, e3, e4⟩
  have hVb := V_b hB hF c0 c1 hbr.1 hbr.2 ho hV
  obtain ⟨j', hj'⟩ := BYC_all ⟨g'.toNat, by omega⟩
  have hj2 : BYC (j'.val : Int) = g' := by
    rw [hj']
    exact Int.toNat_of_nonneg g0'
  rcases h2 with h2 | ⟨h2, i, i1, i2, i3, i4, i5⟩
  · have := h2 j'.val j'.isLt
    rw [hj2] at this
    omega
  · have hbi := BYC_v ⟨i, i1⟩
    have hi' := i4 j'.val j'.isLt
    rw [hj2] at hi'
    have hvi := (val (BYC i) hbi.1 hbi.2).2 (by omega)
    have heq : mby A (Y 47) c (BYC i) + trn A hb (BYC i) = V c hb := by omega
    rw [i2]
    refine ⟨⟨⟨_, hvi.2 heq⟩, fun g2 n2 s2 => ?_⟩, heq⟩
    have hv2 := (val g2 s2.1.1 s2.1.2).1 n2 s2
    obtain ⟨j2, hjj⟩ := BYC_all ⟨g2.toNat, by have := s2.1.2; omega⟩
    have hj3 : BYC (j2.val : Int) = g2 := by
      rw [hjj]
      exact Int.toNat_of_nonneg s2.1.1
    by_cases e5 : j2.val < i
    · have := i5 j2.val e5
      rw [hj3] at this
      omega
    · by_cases e6 : j2.val = i
      · rw [← hj3, e6]
        exact Int.le_refl _
      · have := ld_ord (c := c) (A := A) (by omega) (hvi.2 heq).2.1 (by rw [hj3]; exact s2.2.1) (BYC_ord ⟨i, i1⟩ j2 (by show i < j2.val; omega))
        rw [hj3] at this
        exact Int.le_of_lt this
/-- MINUTES of soonest: what the fixed point says -/
theorem soonestBy_eq {X : Mem} {A : Int → Int} {nd r a f to : Int} {V : Int → Int → Int} (hB : BD A) (hG : GL A nd r X) (hF : FIX A nd a to V) (f0 : 0 ≤ f) (f1 : f < A 0 * A 1) (t0 : 0 ≤ to) (t1 : to < A 0 * A 1) (hfo : opn A nd a f) (hV : V f 8 ≠ FAR) (h14 : X 42 14 = f) (h15 : X 42 15 = to) :
    ∃ R : Int → Int, f_X1_soonestBy a X = some (V f 8, sk X R) ∧ RFU A nd a to V R ∧ opn A nd a to := by
  have hcl := BD_cells hB
  have hto : opn A nd a to := by
    have h1 := chn_59 hB hF f0 f1 (show (0 : Int) ≤ 8 by decide) (by decide) hfo hV
    have : ∀ (n : Nat) (c h : Int), opn A nd a c → chn A nd a to V n c h → opn A nd a to := by
      intro n
      induction n with
      | zero =>
        intro c h ho e
        have e' : c = to := e
        rw [← e']
        exact ho
      | succ n im =>
        intro c h ho e
        rcases e with e | ⟨-, n', g, e1, e2⟩
        · rw [← e]
          exact ho
        · exact im n' g e1.2.2.2.1 e2
    exact this 59 f 8 hfo h1
  obtain ⟨R, e1, e2⟩ := soonestBy_1 hB hG hF hto t0 t1 h15
  refine ⟨R, ?_, e2, hto⟩
  have hGs : GL A nd r (sk X R) := hG.fr (fun i h => sk_o (by omega)) (fun k h => by rw [sk_o (by decide)]) (sk_o (by decide))
  obtain ⟨q1, q2, q3, -⟩ := id hGs
  rw [e1, B_X1_soonestBy_166, sk_o (i := 42) (by decide), h14, h15, c2_ok (by omega) (by omega) (by omega) (by omega)]
  by_cases g : f = to
  · rw [if_neg (by simpa using g), (hF f f0 f1 8 (by decide) (by decide)).2.1 hfo g]
  · obtain ⟨h, s1, s2, s3⟩ := sh_eq (Y := sk X R) (b := -1) (hb := 8) hB hGs hF hto (by rw [sk_47]; exact e2) f0 f1 (Or.inl ⟨rfl, rfl⟩) hfo g hV
    obtain ⟨⟨n, sp⟩, -⟩ := s2
    have hm := mby_eq (Y := sk X R) hB q1 q2 q3 (by rw [sk_47]; exact e2.1.rr) f0 f1 sp.1.1 sp.1.2
    rw [if_pos g, s1, cl_some, hm, cl_some]
    rw [show trn A 8 h = 0 from if_pos rfl, Int.add_zero] at s3
    rw [s3]
/-- the way taken, cell by cell -/
def WLK (A : Int → Int) (nd a f to : Int) (V : Int → Int → Int) (n : Int) (kc hd : Int → Int) : Prop := (1 ≤ n ∧ n ≤ 60) ∧ kc 0 = f ∧ hd 0 = 8 ∧ (∀ j : Int, 0 ≤ j → j + 1 < n → kc j ≠ to ∧ BST A nd a V (kc j) (hd j) (hd (j + 1)) ∧ kc (j + 1) = ld A (kc j) (hd (j + 1))) ∧ kc (n - 1) = to ∧ ∀ j : Int, 0 ≤ j → j < n → 0 ≤ kc j ∧ kc j < A 0 * A 1
theorem keep_29 {A : Int → Int} {nd r a f to mi : Int} {V : Int → Int → Int} (hB : BD A) (hF : FIX A nd a to V) (hto : opn A nd a to) (t0 : 0 ≤ to) (t1 : to < A 0 * A 1) : ∀ (k n : Nat) (c b hb : Int) (l : List (Int × Int)) (hd : Int → Int) (Y : Mem), 1 ≤ n → n ≤ 60 → 60 - n < k → GL A nd r Y → RFU A nd a to V (Y 47) → Y 42 15 = to → Y 42 7 = n → ((b = -1 ∧ hb = 8) ∨ (b = hb ∧ 0 ≤ b ∧ b < 8)) → och A nd a to V ((c, hb) :: l) → l.length + 1 = n →
    (Y 48 0 = f ∧ hd 0 = 8 ∧ (∀ j : Int, 0 ≤ j → j + 1 < n → Y 48 j ≠ to ∧ BST A nd a V (Y 48 j) (hd j) (hd (j + 1)) ∧ Y 48 (j + 1) = ld A (Y 48 j) (hd (j + 1))) ∧ Y 48 (n - 1) = c ∧ hd (n - 1) = hb ∧ ∀ j : Int, 0 ≤ j → j < n → 0 ≤ Y 48 j ∧ Y 48 j < A 0 * A 1) →
    ∃ (Y' : Mem) (m : Int) (hd' : Int → Int), L_X1_keepWay_29 k mi c b Y = some (mi, Y') ∧ (∀ i : Int, i ≠ 42 → i ≠ 48 → Y' i = Y i) ∧ (∀ q : Int, q ≠ 7 → Y' 42 q = Y 42 q) ∧ Y' 42 7 = m ∧ WLK A nd a f to V m (Y' 48) hd' := by
  have hcl := BD_cells hB
  have hw := (BD_w hB t0 t1).1
  intro k
  induction k with
  | zero => intro n c b hb l hd Y _ _ hk; omega
  | succ k ih =>
    intro n c b hb l hd Y n0 n1 hk hG hR h15 h7 hbb hoc hlen hI
    obtain ⟨q1, q2, q3, -⟩ := id hG
    obtain ⟨i1, i2, i3, i4, i5, i6⟩ := hI
    have hh := och_head hB l (c, hb) hoc
    rw [L_X1_keepWay_29, h15, c2_ok (by have := hh.1; omega) (by have := hh.1; omega) (by omega) (by omega)]
    by_cases g : c = to
    · rw [if_pos g]
      exact ⟨Y, n, hd, rfl, fun _ _ _ => rfl, fun _ _ => rfl, h7, ⟨by omega, by omega⟩, i1, i2, i3, by rw [i4]; exact g, i6⟩
    · obtain ⟨h, s1, s2, s3⟩ := sh_eq (Y := Y) (b := b) (hb := hb) hB hG hF hto hR hh.1.1 hh.1.2 hbb hh.2.2.2.1 g hh.2.2.2.2
      obtain ⟨⟨n', sp⟩, hmin⟩ := id s2
      have hoc' : och A nd a to V ((n', h) :: (c, hb) :: l) := ⟨hoc, g, sp⟩
      have hl60 := och_len hB hF hoc'
      simp only [List.length_cons] at hl60
      have hr := ld_r hB sp.2.1
      have hbs := beside_eq (X := Y) (h := h) q2 hB hh.1.1 hh.1.2 sp.1.1 sp.1.2
      rw [if_neg g, h7, c2_ok (by omega) (by omega) (by decide) (by decide), if_neg (by omega), s1, cl_some, q3, cm_ok q1, hbs, cl_some, c2_ok (by omega) (by omega) (by decide) (by decide), if_pos sp.2.1, h7, ax_ok (by omega) (by omega), bd_eq, bd_eq, ms_ne (j := 42) (i := 48) (by decide), h7]
      obtain ⟨Z, hZ⟩ : ∃ Z : Mem, ms (ms Y 48 n (ld A c h)) 42 7 ((n : Int) + 1) = Z := ⟨_, rfl⟩
      have z0 : ∀ i : Int, i ≠ 42 → i ≠ 48 → Z i = Y i := fun i x y => by rw [← hZ, ms_ne x, ms_ne y]
      have z1 : ∀ q : Int, q ≠ 7 → Z 42 q = Y 42 q := fun q x => by rw [← hZ, ms_k x, ms_ne (by decide)]
      have z7 : Z 42 7 = ((n + 1 : Nat) : Int) := by rw [← hZ, ms_s]; rfl
      have z48 : ∀ q : Int, Z 48 q = if q = n then ld A c h else Y 48 q := fun q => by
        rw [← hZ, ms_ne (by decide), ms_at]
        by_cases e : q = n
        · rw [if_pos ⟨rfl, e⟩, if_pos e]
        · rw [if_neg (fun x => e x.2), if_neg e]
      rw [hZ]
      have hhd : ∀ q : Int, up hd n h q = if q = n then h else hd q := fun q => rfl
      have h3' : ∀ j : Int, 0 ≤ j → j + 1 < ((n + 1 : Nat) : Int) → Z 48 j ≠ to ∧ BST A nd a V (Z 48 j) (up hd n h j) (up hd n h (j + 1)) ∧ Z 48 (j + 1) = ld A (Z 48 j) (up hd n h (j + 1)) := by
        intro j x0 x1
        rw [z48, z48, hhd, hhd, if_neg (show ¬ j = n by omega), if_neg (show ¬ j = n by omega)]
        by_cases e : j + 1 = n
        · rw [if_pos e, if_pos e, show j = (n : Int) - 1 by omega, i4, i5]
          exact ⟨g, s2, rfl⟩
        · rw [if_neg e, if_neg e]
          exact i3 j x0 (by omega)
      have h6' : ∀ j : Int, 0 ≤ j → j < ((n + 1 : Nat) : Int) → 0 ≤ Z 48 j ∧ Z 48 j < A 0 * A 1 := by
        intro j x0 x1
        rw [z48]
        by_cases e : j = n
        · rw [if_pos e]
          exact hr
        · rw [if_neg e]
          exact i6 j x0 (by omega)
      obtain ⟨Y', m, hd', j1, j2, j3, j4, j5⟩ := ih (n + 1) (ld A c h) h h ((c, hb) :: l) (up hd n h) Z (by omega) (by omega) (by omega) (hG.fr (fun i x => z0 i (by omega) (by omega)) (fun q x => z1 q (by omega)) (z0 46 (by decide) (by decide))) (by rw [z0 47 (by decide) (by decide)]; exact hR) (by rw [z1 15 (by decide)]; exact h15) z7 (Or.inr ⟨rfl, sp.1.1, sp.1.2⟩) (by rw [sp.2.2.1] at hoc'; exact hoc') (by simp only [List.length_cons]; omega) ⟨by rw [z48, if_neg (by omega)]; exact i1, by rw [hhd, if_neg (by omega)]; exact i2, h3', by rw [z48, if_pos (by omega)], by rw [hhd, if_pos (by omega)], h6'⟩
      exact ⟨Y', m, hd', j1, fun i x y => by rw [j2 i x y, z0 i x y], fun q x => by rw [j3 q x, z1 q x], j4, j5⟩
theorem keepWay_eq {X : Mem} {A : Int → Int} {nd r a f to : Int} {V : Int → Int → Int} (hB : BD A) (hG : GL A nd r X) (hF : FIX A nd a to V) (f0 : 0 ≤ f) (f1 : f < A 0 * A 1) (t0 : 0 ≤ to) (t1 : to < A 0 * A 1) (hfo : opn A nd a f) (hV : V f 8 ≠ FAR) (h14 : X 42 14 = f) (h15 : X 42 15 = to) :
    ∃ (Y : Mem) (m : Int) (hd : Int → Int), f_X1_keepWay a X = some (V f 8, Y) ∧ (∀ i : Int, i ≠ 42 → i ≠ 47 → i ≠ 48 → Y i = X i) ∧ (∀ q : Int, q ≠ 7 → Y 42 q = X 42 q) ∧ Y 42 7 = m ∧ WLK A nd a f to V m (Y 48) hd := by
  obtain ⟨R, e1, e2, hto⟩ := soonestBy_eq hB hG hF f0 f1 t0 t1 hfo hV h14 h15
  unfold f_X1_keepWay
  rw [e1, cl_some, bd_eq, bd_eq, ax_ok (by decide) (by decide), bd_eq, ms_k (by decide), sk_o (i := 42) (by decide), h14]
  obtain ⟨Z, hZ⟩ : ∃ Z : Mem, ms (ms (sk X R) 42 7 1) 48 0 f = Z := ⟨_, rfl⟩
  have z0 : ∀ i : Int, i ≠ 42 → i ≠ 47 → i ≠ 48 → Z i = X i := fun i x y z => by rw [← hZ, ms_ne z, ms_ne x, sk_o y]
  have z1 : ∀ q : Int, q ≠ 7 → Z 42 q = X 42 q := fun q x => by rw [← hZ, ms_ne (by decide), ms_k x, sk_o (by decide)]
  have z7 : Z 42 7 = 1 := by rw [← hZ, ms_ne (by decide), ms_s]
  have z47 : Z 47 = R := by rw [← hZ, ms_ne (by decide), ms_ne (by decide), sk_47]
  have z48 : Z 48 0 = f := by rw [← hZ, ms_s]
  rw [hZ]
  obtain ⟨Y', m, hd', j1, j2, j3, j4, j5⟩ := keep_29 (r := r) (f := f) (mi := V f 8) hB hF hto t0 t1 KF 1 f (-1) 8 [] (fun _ => 8) Z (by decide) (by decide) (by rw [KF_eq]; decide) (hG.fr (fun i x => z0 i (by omega) (by omega) (by omega)) (fun q x => z1 q (by omega)) (z0 46 (by decide) (by decide) (by decide))) (by rw [z47]; exact e2) (by rw [z1 15 (by decide)]; exact h15) z7 (Or.inl ⟨rfl, rfl⟩) ⟨⟨f0, f1⟩, (show (0 : Int) ≤ 8 ∧ (8 : Int) < 9 by decide), hfo, hV⟩ rfl ⟨z48, rfl, fun j x0 x1 => by omega, by rw [show ((1 : Nat) : Int) - 1 = 0 from rfl]; exact z48, rfl, fun j x0 x1 => by rw [show j = 0 by omega, z48]; exact ⟨f0, f1⟩⟩
  refine ⟨Y', m, hd', j1, fun i x y z => ?_, fun q x => by rw [j3 q x, z1 q x], j4, j5⟩
  rw [j2 i x z, z0 i x y z]
