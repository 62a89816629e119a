/-! the class's minutes -/
theorem stepc_eq {X : Mem} {r h : Int} {A : Int → Int} (hR : RV X r A) (h0 : 0 ≤ h) (h1 : h < 8) : f_X2_stepMinutes r h X = some (stp A h, X) := by
  obtain ⟨⟨-, -, -, -, -, r5, r6, -⟩, -⟩ := hR
  obtain ⟨h, rfl⟩ := fin8 h0 h1
  have e := (by decide +kernel : ∀ h : Fin 8, (ia (h.val : Int) 1 = 0 ↔ (h.val : Int) % 2 = 0)) h
  have hI := ia_I (h.val : Int) 1
  unfold f_X2_stepMinutes stp
  rw [c1_ok hI.1 hI.2, r5, r6]
  by_cases g : (h.val : Int) % 2 = 0
  · rw [if_neg (by rw [e.mpr g]; decide), if_pos g]
  · rw [if_pos (fun q => g (e.mp q)), if_neg g]
theorem turnc_eq {X : Mem} {r b h : Int} {A : Int → Int} (hR : RV X r A) (b0 : 0 ≤ b) (b1 : b < 8) (h0 : 0 ≤ h) (h1 : h < 8) : f_X2_turnMinutes r b h X = some (trn A b h, X) := by
  obtain ⟨⟨-, -, -, -, -, -, -, r7, -⟩, -⟩ := hR
  obtain ⟨h, rfl⟩ := fin8 h0 h1
  obtain ⟨b, rfl⟩ := fin8 b0 b1
  have e := (by decide +kernel : ∀ b h : Fin 8, 0 ≤ ia ((h.val : Int) - b.val) 7 ∧ ia ((h.val : Int) - b.val) 7 ≤ 7 ∧ (if ia ((h.val : Int) - b.val) 7 ≤ 4 then ia ((h.val : Int) - b.val) 7 else 8 - ia ((h.val : Int) - b.val) 7) = dhh b.val h.val) b h
  unfold f_X2_turnMinutes B_X2_turnMinutes_31 trn
  rw [c2_ok (by omega) (by omega) (by decide) (by decide), if_pos (by omega), bd_eq, c2_ok (by omega) (by omega) (by decide) (by decide), r7, if_neg (show ¬ (b.val : Int) = 8 by omega), ← e.2.2]
  by_cases g : ia ((h.val : Int) - b.val) 7 ≤ 4
  · rw [if_pos g, if_pos g]
  · rw [if_neg g, if_neg g]
theorem turnc_m1 {X : Mem} {r h : Int} {A : Int → Int} : f_X2_turnMinutes r (-1) h X = some (trn A 8 h, X) := by
  unfold f_X2_turnMinutes trn
  rw [c2_ok (by decide) (by decide) (by decide) (by decide), if_neg (by decide), if_pos rfl]
/-- minutes by a heading, out of the row R -/
def mby (A R : Int → Int) (c h : Int) : Int := if ld A c h = -1 then 1000000000 else if R (ld A c h * 8 + h) < 1000000000 then R (ld A c h * 8 + h) + stp A h else 1000000000
def RR (A R : Int → Int) : Prop := ∀ c : Int, 0 ≤ c → c < A 0 * A 1 → ∀ h : Int, 0 ≤ h → h < 8 → 0 ≤ R (c * 8 + h) ∧ R (c * 8 + h) ≤ 1000000000
theorem mby_eq {Y : Mem} {A : Int → Int} {r c h : Int} (hB : BD A) (hr : r ∈ RIV) (hR : RV Y r A) (h11 : Y 42 11 = r) (hRR : RR A (Y 47)) (c0 : 0 ≤ c) (c1 : c < A 0 * A 1) (h0 : 0 ≤ h) (h1 : h < 8) : f_X1_minutesBy c h Y = some (mby A (Y 47) c h, Y) := by
  have hcl := BD_cells hB
  unfold f_X1_minutesBy B_X1_minutesBy_31 mby
  rw [h11, cm_ok hr, beside_eq hR hB c0 c1 h0 h1, cl_some]
  by_cases g : ld A c h = -1
  · rw [if_pos g, c2_ok (by omega) (by omega) (by decide) (by decide), if_pos g]
  · have hl := ld_r hB g
    have hq := hRR _ hl.1 hl.2 h h0 h1
    rw [if_neg g, c2_ok (by omega) (by omega) (by decide) (by decide), if_neg g, ax_ok (by omega) (by omega), c2_ok (by omega) (by omega) (by decide) (by decide)]
    by_cases g2 : Y 47 (ld A c h * 8 + h) < 1000000000
    · rw [if_pos g2, if_pos g2, ax_ok (by omega) (by omega), h11, cm_ok hr, stepc_eq hR h0 h1, cl_some]
    · rw [if_neg g2, if_neg g2]
section SETT
variable {A : Int → Int} {nd a to : Int} {V : Int → Int → Int}
/-- what settling keeps -/
def JIN (A : Int → Int) (nd a to : Int) (V : Int → Int → Int) (R : Int → Int) : Prop := ∀ c : Int, 0 ≤ c → c < A 0 * A 1 → ∀ h : Int, 0 ≤ h → h < 8 → (0 ≤ R (c * 8 + h) ∧ R (c * 8 + h) ≤ 1000000000) ∧ (c = to → R (c * 8 + h) = 0) ∧ (c ≠ to → R (c * 8 + h) = 1000000000 ∨ (opn A nd a c ∧ V c h ≠ FAR ∧ V c h ≤ R (c * 8 + h)))
theorem JIN.rr {R : Int → Int} (h : JIN A nd a to V R) : RR A R := fun c c0 c1 hd h0 h1 => (h c c0 c1 hd h0 h1).1
def CNC (A R : Int → Int) (c : Int) : Prop := ∀ h : Int, 0 ≤ h → h < 8 → ∀ g : Int, 0 ≤ g → g < 8 → ld A c g ≠ -1 → R (ld A c g * 8 + g) < 1000000000 → R (c * 8 + h) ≤ stp A g + trn A h g + R (ld A c g * 8 + g)
theorem JIN.relax (hB : BD A) (hF : FIX A nd a to V) (hto : opn A nd a to) (t0 : 0 ≤ to) (t1 : to < A 0 * A 1) {R : Int → Int} (hJ : JIN A nd a to V R) {c b g v : Int} (c0 : 0 ≤ c) (c1 : c < A 0 * A 1) (b0 : 0 ≤ b) (b1 : b < 8) (g0 : 0 ≤ g) (g1 : g < 8) (ho : opn A nd a c) (hc : c ≠ to) (hn : ld A c g ≠ -1) (hV : R (ld A c g * 8 + g) < 1000000000) (hv : v = R (ld A c g * 8 + g) + stp A g + trn A b g) (hlt : v < R (c * 8 + b)) : JIN A nd a to V (up R (c * 8 + b) v) := by
  intro d d0 d1 h h0 h1
  obtain ⟨i1, i2, i3⟩ := hJ d d0 d1 h h0 h1
  have hr := ld_r hB hn
  obtain ⟨j1, j2, j3⟩ := hJ (ld A c g) hr.1 hr.2 g g0 g1
  have hst := stp_r hB (g := g)
  have htr := trn_r hB b0 (show b < 9 by omega) g0 g1
  have hcb := (hJ c c0 c1 b b0 b1).1
  by_cases e : d = c ∧ h = b
  · obtain ⟨rfl, rfl⟩ := e
    rw [up_same]
    refine ⟨by omega, fun q => absurd q hc, fun _ => Or.inr ?_⟩
    have hno : opn A nd a (ld A d g) ∧ V (ld A d g) g ≠ FAR ∧ V (ld A d g) g ≤ R (ld A d g * 8 + g) := by
      by_cases et : ld A d g = to
      · have hz := (hF to t0 t1 g g0 (by omega)).2.1 hto rfl
        rw [et, hz]
        rw [et] at j1
        exact ⟨hto, by decide, j1.1⟩
      · rcases j3 et with q | q
        · omega
        · exact q
    have h4 := ((hF d d0 d1 h h0 (by omega)).2.2.2 ho hc).1 g g0 g1 hn hno.1 hno.2.1
    have hb := V_b hB hF hr.1 hr.2 g0 (show g < 9 by omega) hno.1 hno.2.1
    exact ⟨ho, by unfold FAR; omega, by omega⟩
  · rw [up_ne (by omega)]
    exact ⟨i1, i2, i3⟩
end SETT
/-- the class's row of minutes -/
def sk (X : Mem) (R : Int → Int) : Mem := ma X 47 R
theorem sk_o {X : Mem} {R : Int → Int} {i : Int} (h : i ≠ 47) : sk X R i = X i := ma_ne h
theorem sk_47 {X : Mem} {R : Int → Int} : sk X R 47 = R := ma_same
theorem sk_ms {X : Mem} {R : Int → Int} {k v : Int} : ms (sk X R) 47 k v = sk X (up R k v) := by rw [ms_ma, sk_47, sk, ma_ma, sk]
theorem sk_sk {X : Mem} {R S : Int → Int} : sk (sk X R) S = sk X S := ma_ma
theorem set_28 {X : Mem} {A : Int → Int} {nd r a to c g : Int} {V : Int → Int → Int} (hB : BD A) (hG : GL A nd r X) (hF : FIX A nd a to V) (hto : opn A nd a to) (t0 : 0 ≤ to) (t1 : to < A 0 * A 1) (c0 : 0 ≤ c) (c1 : c < A 0 * A 1) (ho : opn A nd a c) (hc : c ≠ to) (g0 : 0 ≤ g) (g1 : g < 8) (hn : ld A c g ≠ -1) (go : Int → Int → Int → Mem → Option (Int × Mem)) (T : Int) (hT : T < 1000000000) : ∀ (k : Nat) (b fw : Int) (R : Int → Int), 0 ≤ b → b ≤ 8 → (8 - b).toNat < k → JIN A nd a to V R → R (ld A c g * 8 + g) = T →
    ∃ (R' : Int → Int) (fw' : Int), L_X1_settle_28 go k c fw g (T + stp A g) b (sk X R) = go c fw' (g + 1) (sk X R') ∧ JIN A nd a to V R' ∧ (∀ q : Int, R' q ≤ R q) ∧ (∀ q : Int, (q < c * 8 ∨ c * 8 + 8 ≤ q) → R' q = R q) ∧ (∀ b' : Int, b ≤ b' → b' < 8 → R' (c * 8 + b') ≤ stp A g + trn A b' g + T) ∧ ((fw' = fw ∧ R' = R) ∨ fw' = 1) := by
  have hcl := BD_cells hB
  have hr := ld_r hB hn
  have hne := ld_ne hB c0 c1 g0 g1 hn
  obtain ⟨q1, q2, q3, -⟩ := hG
  have hrr := RIV_r q1
  intro k
  induction k with
  | zero => intro b fw R _ _ hk; omega
  | succ k ih =>
    intro b fw R b0 b1 hk hJ hRT
    rw [L_X1_settle_28, c2_ok (by omega) (by omega) (by decide) (by decide)]
    by_cases e : 8 ≤ b
    · rw [if_pos e, B_X1_settle_89]
      exact ⟨R, fw, rfl, hJ, fun _ => Int.le_refl _, fun _ _ => rfl, fun b' _ _ => by omega, Or.inl ⟨rfl, rfl⟩⟩
    · have hRY : RV (sk X R) r A := q2.fr2 q1 fun i h => sk_o (by omega)
      have hst := stp_r hB (g := g)
      have htr := trn_r hB b0 (show b < 9 by omega) g0 g1
      have jn := (hJ (ld A c g) hr.1 hr.2 g g0 g1).1
      have jc := (hJ c c0 c1 b b0 (by omega)).1
      rw [if_neg e, sk_o (i := 42) (by decide), q3, cm_ok q1, turnc_eq hRY b0 (by omega) g0 g1, cl_some, bd_eq, ax_ok (by omega) (by omega), sk_47, c2_ok (by omega) (by omega) (by omega) (by omega)]
      by_cases e2 : R (c * 8 + b) ≤ T + stp A g + trn A b g
      · rw [if_pos e2, B_X1_settle_83]
        obtain ⟨R', fw', h1, h2, h3, h4, h5, h6⟩ := ih (b + 1) fw R (by omega) (by omega) (by omega) hJ hRT
        refine ⟨R', fw', h1, h2, h3, h4, fun b' p1 p2 => ?_, h6⟩
        by_cases e3 : b' = b
        · subst e3
          have := h3 (c * 8 + b')
          omega
        · exact h5 b' (by omega) p2
      · rw [if_neg e2, ax_ok (by omega) (by omega), bd_eq, sk_ms, B_X1_settle_83]
        have hJ' := hJ.relax hB hF hto t0 t1 c0 c1 b0 (show b < 8 by omega) g0 g1 ho hc hn (by omega) (v := T + stp A g + trn A b g) (by omega) (by omega)
        obtain ⟨R', fw', h1, h2, h3, h4, h5, h6⟩ := ih (b + 1) 1 _ (by omega) (by omega) (by omega) hJ' (by rw [up_ne (by omega)]; exact hRT)
        refine ⟨R', fw', h1, h2, fun q => ?_, fun q hq => ?_, fun b' p1 p2 => ?_, ?_⟩
        · have := h3 q
          unfold up at this
          split at this
          · rename_i e3
            rw [e3] at this ⊢
            omega
          · exact this
        · rw [h4 q hq, up_ne (by omega)]
        · by_cases e3 : b' = b
          · subst e3
            have := h3 (c * 8 + b')
            rw [up_same] at this
            omega
          · exact h5 b' (by omega) p2
        · rcases h6 with ⟨h6, -⟩ | h6
          · exact Or.inr h6
          · exact Or.inr h6
theorem set_4 {X : Mem} {A : Int → Int} {nd r a to c : Int} {V : Int → Int → Int} (hB : BD A) (hG : GL A nd r X) (hF : FIX A nd a to V) (hto : opn A nd a to) (t0 : 0 ≤ to) (t1 : to < A 0 * A 1) (c0 : 0 ≤ c) (c1 : c < A 0 * A 1) (ho : opn A nd a c) (hc : c ≠ to) : ∀ (k : Nat) (g fw : Int) (R : Int → Int), 0 ≤ g → g ≤ 8 → (8 - g).toNat < k → (fw = 0 ∨ fw = 1) → JIN A nd a to V R →
    ∃ (R' : Int → Int) (fw' : Int), L_X1_settle_4 k c fw g (sk X R) = some (fw', sk X R') ∧ (fw' = 0 ∨ fw' = 1) ∧ JIN A nd a to V R' ∧ (∀ q : Int, R' q ≤ R q) ∧ (∀ q : Int, (q < c * 8 ∨ c * 8 + 8 ≤ q) → R' q = R q) ∧
      (∀ g' : Int, g ≤ g' → g' < 8 → ld A c g' ≠ -1 → R (ld A c g' * 8 + g') < 1000000000 → ∀ h : Int, 0 ≤ h → h < 8 → R' (c * 8 + h) ≤ stp A g' + trn A h g' + R (ld A c g' * 8 + g')) ∧ ((fw' = fw ∧ R' = R) ∨ fw' = 1) := by
  have hcl := BD_cells hB
  obtain ⟨q1, q2, q3, -⟩ := id hG
  have hrr := RIV_r q1
  intro k
  induction k with
  | zero => intro g fw R _ _ hk; omega
  | succ k ih =>
    intro g fw R g0 g1 hk hf hJ
    rw [L_X1_settle_4, c2_ok (by omega) (by omega) (by decide) (by decide)]
    by_cases e : 8 ≤ g
    · rw [if_pos e, cz_ok hf]
      exact ⟨R, fw, rfl, hf, hJ, fun _ => Int.le_refl _, fun _ _ => rfl, fun g' p1 p2 => by omega, Or.inl ⟨rfl, rfl⟩⟩
    · have hRY : RV (sk X R) r A := q2.fr2 q1 fun i h => sk_o (by omega)
      have hm := mby_eq (Y := sk X R) hB q1 hRY (by rw [sk_o (by decide)]; exact q3) (by rw [sk_47]; exact hJ.rr) c0 c1 g0 (show g < 8 by omega)
      rw [sk_47] at hm
      have hst := stp_r hB (g := g)
      have hmr : 0 ≤ mby A R c g ∧ mby A R c g ≤ 1000000099 := by
        unfold mby
        split
        · omega
        · rename_i hn
          have hl := ld_r hB hn
          have := hJ.rr _ hl.1 hl.2 g g0 (by omega)
          split <;> omega
      rw [if_neg e, hm, cl_some, c2_ok (by omega) (by omega) (by decide) (by decide)]
      by_cases hcase : ld A c g ≠ -1 ∧ R (ld A c g * 8 + g) < 1000000000 ∧ R (ld A c g * 8 + g) + stp A g < 1000000000
      · obtain ⟨hn, hV, hlt⟩ := hcase
        have k1 : 0 ≤ g + 1 := by omega
        have k2 : g + 1 ≤ 8 := by omega
        have k3 : (8 - (g + 1)).toNat < k := by
          clear ih
          omega
        have em : mby A R c g = R (ld A c g * 8 + g) + stp A g := by
          unfold mby
          rw [if_neg hn, if_pos hV]
        rw [em, if_neg (by omega)]
        obtain ⟨R1, fw1, h1, h2, h3, h4, h5, h6⟩ := set_28 (X := X) (r := r) hB hG hF hto t0 t1 c0 c1 ho hc g0 (by omega) hn (fun x1 x2 x3 X => L_X1_settle_4 k x1 x2 x3 X) (R (ld A c g * 8 + g)) hV KF 0 fw R (by decide) (by decide) (by rw [KF_eq]; decide) hJ rfl
        have hf1 : fw1 = 0 ∨ fw1 = 1 := by
          rcases h6 with ⟨h6, -⟩ | h6
          · rw [h6]; exact hf
          · exact Or.inr h6
        obtain ⟨R', fw', i1, i2, i3, i4, i5, i6, i7⟩ := ih (g + 1) fw1 R1 k1 k2 k3 hf1 h2
        refine ⟨R', fw', h1.trans i1, i2, i3, fun q => Int.le_trans (i4 q) (h3 q), fun q hq => (i5 q hq).trans (h4 q hq), fun g' p1 p2 a1 a2 h b0 b1 => ?_, ?_⟩
        · by_cases e3 : g' = g
          · subst e3
            have := i4 (c * 8 + h)
            have := h5 h b0 b1
            omega
          · have hr' := ld_r hB a1
            have hne' := ld_ne hB c0 c1 (show 0 ≤ g' by omega) p2 a1
            have eq1 := h4 (ld A c g' * 8 + g') (by omega)
            have := i6 g' (by omega) p2 a1 (by rw [eq1]; exact a2) h b0 b1
            rw [eq1] at this
            exact this
        · rcases h6 with ⟨a1, a2⟩ | a1
          · rcases i7 with ⟨a3, a4⟩ | a3
            · exact Or.inl ⟨a3.trans a1, a4.trans a2⟩
            · exact Or.inr a3
          · rcases i7 with ⟨a3, -⟩ | a3
            · exact Or.inr (a3.trans a1)
            · exact Or.inr a3
      · have hge : 1000000000 ≤ mby A R c g := by
          unfold mby
          split
          · exact Int.le_refl _
          · rename_i hn
            split
            · rename_i hV
              by_cases q : R (ld A c g * 8 + g) + stp A g < 1000000000
              · exact absurd ⟨hn, hV, q⟩ hcase
              · omega
            · exact Int.le_refl _
        rw [if_pos hge, B_X1_settle_89]
        obtain ⟨R', fw', h1, h2, h3, h4, h5, h6, h7⟩ := ih (g + 1) fw R (by omega) (by omega) (by omega) hf hJ
        refine ⟨R', fw', h1, h2, h3, h4, h5, fun g' p1 p2 a1 a2 h b0 b1 => ?_, h7⟩
        by_cases e3 : g' = g
        · subst e3
          have hb := (hJ c c0 c1 h b0 b1).1
          have := h4 (c * 8 + h)
          have htr := trn_r hB b0 (show h < 9 by omega) g0 (show g' < 8 by omega)
          have em : mby A R c g' = R (ld A c g' * 8 + g') + stp A g' := by
            unfold mby
            rw [if_neg a1, if_pos a2]
          omega
        · exact h6 g' (by omega) p2 a1 a2 h b0 b1
theorem settle_eq {X : Mem} {A : Int → Int} {nd r a to c : Int} {V : Int → Int → Int} (hB : BD A) (hG : GL A nd r X) (hF : FIX A nd a to V) (hto : opn A nd a to) (t0 : 0 ≤ to) (t1 : to < A 0 * A 1) (c0 : 0 ≤ c) (c1 : c < A 0 * A 1) (ho : opn A nd a c) (hc : c ≠ to) {R : Int → Int} (hJ : JIN A nd a to V R) :
    ∃ (R' : Int → Int) (fw : Int), f_X1_settle c (sk X R) = some (fw, sk X R') ∧ JIN A nd a to V R' ∧ (∀ q : Int, R' q ≤ R q) ∧ (∀ q : Int, (q < c * 8 ∨ c * 8 + 8 ≤ q) → R' q = R q) ∧ CNC A R' c ∧ ((fw = 0 ∧ R' = R) ∨ fw = 1) := by
  unfold f_X1_settle
  obtain ⟨R', fw', h1, h2, h3, h4, h5, h6, h7⟩ := set_4 (X := X) (r := r) hB hG hF hto t0 t1 c0 c1 ho hc KF 0 0 R (by decide) (by decide) (by rw [KF_eq]; decide) (Or.inl rfl) hJ
  refine ⟨R', fw', h1, h3, h4, h5, fun h b0 b1 g g0 g1 a1 a2 => ?_, h7⟩
  have hr' := ld_r hB a1
  have hne' := ld_ne hB c0 c1 g0 g1 a1
  have eq1 := h5 (ld A c g * 8 + g) (by omega)
  rw [eq1] at a2 ⊢
  exact h6 g g0 g1 a1 a2 h b0 b1
