/-! the class's soonest: all rounds -/
section STLS
variable {A : Int → Int} {nd a to : Int} {V : Int → Int → Int}
def STL (A : Int → Int) (nd a to : Int) (V : Int → Int → Int) (R : Int → Int) (m : Nat) (d : Int) : Prop := ∀ h : Int, 0 ≤ h → h < 8 → chn A nd a to V m d h → V d h ≠ FAR → R (d * 8 + h) = V d h
theorem STL.mono (hB : BD A) (hF : FIX A nd a to V) {R R' : Int → Int} {m : Nat} {d : Int} (d0 : 0 ≤ d) (d1 : d < A 0 * A 1) (ho : opn A nd a d) (hJ : JIN A nd a to V R') (hle : ∀ q : Int, R' q ≤ R q) (h : STL A nd a to V R m d) : STL A nd a to V R' m d := by
  intro k k0 k1 hc hV
  have h1 := h k k0 k1 hc hV
  have h2 := hle (d * 8 + k)
  obtain ⟨j1, j2, j3⟩ := hJ d d0 d1 k k0 k1
  have hb := V_b hB hF d0 d1 k0 (show k < 9 by omega) ho hV
  by_cases e : d = to
  · rw [j2 e, (hF d d0 d1 k k0 (by omega)).2.1 ho e]
  · rcases j3 e with q | ⟨-, -, q⟩ <;> omega
/-- a cell that agrees with its neighbours is settled a step further -/
theorem STL.next (hB : BD A) (hF : FIX A nd a to V) {R : Int → Int} {m : Nat} {d : Int} (d0 : 0 ≤ d) (d1 : d < A 0 * A 1) (ho : opn A nd a d) (hJ : JIN A nd a to V R) (hall : ∀ e : Int, 0 ≤ e → e < A 0 * A 1 → opn A nd a e → STL A nd a to V R m e) (hC : d ≠ to → CNC A R d) : STL A nd a to V R (m + 1) d := by
  intro k k0 k1 hc hV
  obtain ⟨j1, j2, j3⟩ := hJ d d0 d1 k k0 k1
  by_cases e : d = to
  · rw [j2 e, (hF d d0 d1 k k0 (by omega)).2.1 ho e]
  · rcases hc with q | ⟨-, n', g, ⟨⟨g0, g1⟩, e1, e2, e3, e4, e5⟩, hc⟩
    · exact absurd q e
    · have hr := ld_r hB e1
      rw [← e2] at hr
      have h1 := hall n' hr.1 hr.2 e3 g g0 g1 hc e4
      have hb := V_b hB hF hr.1 hr.2 g0 (show g < 9 by omega) e3 e4
      have h2 := hC e k k0 k1 g g0 g1 e1 (by rw [← e2, h1]; omega)
      rw [← e2, h1] at h2
      have hb2 := V_b hB hF d0 d1 k0 (show k < 9 by omega) ho hV
      rcases j3 e with q | ⟨-, -, q⟩ <;> omega
end STLS
def KPC (A : Int → Int) (nd a to S : Int) (R : Int → Int) (Bt c : Int) : Prop := ∀ d : Int, 0 ≤ d → d < A 0 * A 1 → opn A nd a d → d ≠ to → (¬ inb S d ∨ d < c) → (CNC A R d ∨ ∃ u : Int, inb Bt u ∧ adj A d u)
theorem soon_95 {X : Mem} {A : Int → Int} {nd r a to C goal S : Int} {V : Int → Int → Int} {m : Nat} (hB : BD A) (hG : GL A nd r X) (hF : FIX A nd a to V) (hto : opn A nd a to) (t0 : 0 ≤ to) (t1 : to < A 0 * A 1) (hS : ∀ t : Int, inb S t → (0 ≤ t ∧ t < A 0 * A 1) ∧ opn A nd a t ∧ t ≠ to) (go : Int → Int → Int → Int → Mem → Option (Int × Mem)) (ro : Int) : ∀ (k c : Nat) (Bt : Int) (R : Int → Int), (c : Int) ≤ A 0 * A 1 → (A 0 * A 1 - c).toNat < k → JIN A nd a to V R → (∀ t : Int, inb Bt t → t < A 0 * A 1) → KPC A nd a to S R Bt c → (∀ d : Int, 0 ≤ d → d < A 0 * A 1 → opn A nd a d → STL A nd a to V R m d) → (∀ d : Int, 0 ≤ d → d < A 0 * A 1 → opn A nd a d → (¬ inb S d ∨ d < c) → STL A nd a to V R (m + 1) d) →
    ∃ (R' : Int → Int) (Bt' : Int), L_X1_soonestBy_95 go k C goal S ro Bt c (sk X R) = B_X1_soonestBy_143 go C goal ro Bt' (sk X R') ∧ JIN A nd a to V R' ∧ (∀ t : Int, inb Bt' t → t < A 0 * A 1) ∧ KPC A nd a to S R' Bt' (A 0 * A 1) ∧ (∀ d : Int, 0 ≤ d → d < A 0 * A 1 → opn A nd a d → STL A nd a to V R' (m + 1) d) := by
  have hcl := BD_cells hB
  obtain ⟨q1, q2, q3, -⟩ := id hG
  have hrr := RIV_r q1
  intro k
  induction k with
  | zero => intro c Bt R _ hk; omega
  | succ k ih =>
    intro c Bt R hc hk hJ hBt hK hS1 hS2
    have hRY : RV (sk X R) r A := q2.fr2 q1 fun i h => sk_o (by omega)
    have hRY2 := hRY
    obtain ⟨⟨r0, r1, -⟩, -⟩ := hRY
    rw [L_X1_soonestBy_95, sk_o (i := 42) (by decide), q3, cm_ok q1, show f_X2_cellCount r (sk X R) = some (sk X R r 0 * sk X R r 1, sk X R) from rfl, cl_some, r0, r1, c2_ok (by omega) (by omega) (by omega) (by omega)]
    by_cases g : A 0 * A 1 ≤ (c : Int)
    · rw [if_pos g]
      have e : (c : Int) = A 0 * A 1 := by omega
      rw [e] at hK
      exact ⟨R, Bt, rfl, hJ, hBt, hK, fun d d0 d1 ho => hS2 d d0 d1 ho (Or.inr (by omega))⟩
    · have hl := la_J (lushr S c) 1
      have e2 : (c : Int) + 1 = ((c + 1 : Nat) : Int) := rfl
      rw [if_neg g, d2_ok hl.1 hl.2 (by decide) (by decide)]
      by_cases g2 : la (lushr S c) 1 = 1
      · have hin : inb S c := inb_nat.mpr ((bit_at (by omega)).mp g2)
        obtain ⟨-, ho, hne⟩ := hS c hin
        obtain ⟨R1, fw, h1, h2, h3, h4, h5, h6⟩ := settle_eq (X := X) (r := r) hB hG hF hto t0 t1 (show (0 : Int) ≤ c by omega) (show (c : Int) < A 0 * A 1 by omega) ho hne hJ
        have hS1' : ∀ d : Int, 0 ≤ d → d < A 0 * A 1 → opn A nd a d → STL A nd a to V R1 m d := fun d d0 d1 hd => (hS1 d d0 d1 hd).mono hB hF d0 d1 hd h2 h3
        have hS2' : ∀ d : Int, 0 ≤ d → d < A 0 * A 1 → opn A nd a d → (¬ inb S d ∨ d < ((c + 1 : Nat) : Int)) → STL A nd a to V R1 (m + 1) d := by
          intro d d0 d1 hd hcs
          by_cases e : d = c
          · rw [e]
            exact STL.next hB hF (by omega) (by omega) ho h2 hS1' (fun _ => h5)
          · refine (hS2 d d0 d1 hd ?_).mono hB hF d0 d1 hd h2 h3
            rcases hcs with q | q
            · exact Or.inl q
            · exact Or.inr (by omega)
        rw [if_neg (by simpa using g2), h1, cl_some]
        rcases h6 with ⟨h6, h7⟩ | h6
        · rw [h6, c1_ok (by decide) (by decide), if_pos rfl, B_X1_soonestBy_137, e2]
          refine ih (c + 1) Bt R1 (by omega) (by omega) h2 hBt ?_ hS1' hS2'
          intro d d0 d1 hd hdt hcs
          by_cases e : d = c
          · rw [e]
            exact Or.inl h5
          · rw [h7]
            refine hK d d0 d1 hd hdt ?_
            rcases hcs with q | q
            · exact Or.inl q
            · exact Or.inr (by omega)
        · rw [h6, c1_ok (by decide) (by decide), if_neg (by decide), bd_eq, B_X1_soonestBy_137, e2]
          have hb' : ∀ t : Int, inb (lo Bt (lshl 1 c)) t ↔ inb Bt t ∨ t = c := by
            intro t
            constructor
            · rintro ⟨j, e, hb⟩
              rw [btl_lo, btl_one (by omega), Bool.or_eq_true, decide_eq_true_eq] at hb
              rcases hb with hb | hb
              · exact Or.inl ⟨j, e, hb⟩
              · exact Or.inr (by omega)
            · rintro (⟨j, e, hb⟩ | e)
              · exact ⟨j, e, by rw [btl_lo, hb]; rfl⟩
              · exact ⟨c, e.symm, by rw [btl_lo, btl_one (by omega), decide_eq_true rfl, Bool.or_true]⟩
          refine ih (c + 1) _ R1 (by omega) (by omega) h2 (fun t ht => ?_) ?_ hS1' hS2'
          · rcases (hb' t).mp ht with q | q
            · exact hBt t q
            · omega
          · intro d d0 d1 hd hdt hcs
            by_cases e : d = c
            · rw [e]
              exact Or.inl h5
            · have hk2 := hK d d0 d1 hd hdt (by
                rcases hcs with q | q
                · exact Or.inl q
                · exact Or.inr (by omega))
              rcases hk2 with q | ⟨u, u1, u2⟩
              · by_cases hadj : adj A d c
                · exact Or.inr ⟨c, (hb' c).mpr (Or.inr rfl), hadj⟩
                · refine Or.inl fun h b0 b1 g0' p0 p1 a1 a2 => ?_
                  have hnc : ld A d g0' ≠ c := fun q2 => hadj (by rw [← q2]; exact ld_adj hB a1)
                  have e3 := h4 (ld A d g0' * 8 + g0') (by omega)
                  have e4 := h4 (d * 8 + h) (by omega)
                  rw [e3] at a2 ⊢
                  rw [e4]
                  exact q h b0 b1 g0' p0 p1 a1 a2
              · exact Or.inr ⟨u, (hb' u).mpr (Or.inl u1), u2⟩
      · have hin : ¬ inb S c := fun q => g2 ((bit_at (by omega)).mpr (inb_nat.mp q))
        rw [if_pos g2, B_X1_soonestBy_137, e2]
        refine ih (c + 1) Bt R (by omega) (by omega) hJ hBt ?_ hS1 ?_
        · intro d d0 d1 hd hdt hcs
          refine hK d d0 d1 hd hdt ?_
          rcases hcs with q | q
          · exact Or.inl q
          · by_cases e : d = c
            · rw [e]
              exact Or.inl hin
            · exact Or.inr (by omega)
        · intro d d0 d1 hd hcs
          refine hS2 d d0 d1 hd ?_
          rcases hcs with q | q
          · exact Or.inl q
          · by_cases e : d = c
            · rw [e]
              exact Or.inl hin
            · exact Or.inr (by omega)
/-- bits of what is looked at next -/
theorem stale_bits {A : Int → Int} {nd a to C v Bt : Int} (hB : BD A) (t0 : 0 ≤ to) (t1 : to < A 0 * A 1) (hC : ∀ t : Int, inb C t ↔ (0 ≤ t ∧ t < A 0 * A 1 ∧ opn A nd a t)) (e3 : ∀ t : Int, 0 ≤ t → t < A 0 * A 1 → (inb v t ↔ ∃ u : Int, inb Bt u ∧ adj A t u)) (t : Int) : inb (la (la v C) (lx (lshl 1 to) (-1))) t ↔ ((0 ≤ t ∧ t < A 0 * A 1) ∧ opn A nd a t ∧ t ≠ to) ∧ ∃ u : Int, inb Bt u ∧ adj A t u := by
  have hcl := BD_cells hB
  obtain ⟨T, hT⟩ : ∃ T : Nat, (T : Int) = to := ⟨to.toNat, Int.toNat_of_nonneg t0⟩
  constructor
  · intro h
    have hr := inb_r h
    obtain ⟨j, rfl⟩ : ∃ j : Nat, (j : Int) = t := ⟨t.toNat, Int.toNat_of_nonneg hr.1⟩
    rw [inb_nat, btl_la, btl_la, Bool.and_eq_true, Bool.and_eq_true, btl_n (by omega), ← hT, btl_one (by omega)] at h
    obtain ⟨⟨h1, h2⟩, h3⟩ := h
    have h6 := (hC j).mp (inb_nat.mpr h2)
    refine ⟨⟨⟨h6.1, h6.2.1⟩, h6.2.2, fun q => ?_⟩, (e3 j h6.1 h6.2.1).mp (inb_nat.mpr h1)⟩
    rw [decide_eq_true (show j = T by omega)] at h3
    cases h3
  · rintro ⟨⟨⟨h1, h2⟩, h3, h4⟩, h5⟩
    obtain ⟨j, rfl⟩ : ∃ j : Nat, (j : Int) = t := ⟨t.toNat, Int.toNat_of_nonneg h1⟩
    rw [inb_nat, btl_la, btl_la, Bool.and_eq_true, Bool.and_eq_true, btl_n (by omega), ← hT, btl_one (by omega), decide_eq_false (show ¬ j = T by omega)]
    exact ⟨⟨inb_nat.mp ((e3 j h1 h2).mpr h5), inb_nat.mp ((hC j).mpr ⟨h1, h2, h3⟩)⟩, rfl⟩
theorem soon_75 {X : Mem} {A : Int → Int} {nd r a to C goal : Int} {V : Int → Int → Int} (hB : BD A) (hG : GL A nd r X) (hF : FIX A nd a to V) (hto : opn A nd a to) (t0 : 0 ≤ to) (t1 : to < A 0 * A 1) (hC : ∀ t : Int, inb C t ↔ (0 ≤ t ∧ t < A 0 * A 1 ∧ opn A nd a t)) (hg : goal = lshl 1 to) : ∀ (k m : Nat) (S : Int) (R : Int → Int), m ≤ 60 → 60 - m < k → inJ S → (∀ t : Int, inb S t → (0 ≤ t ∧ t < A 0 * A 1) ∧ opn A nd a t ∧ t ≠ to) → JIN A nd a to V R → (∀ d : Int, 0 ≤ d → d < A 0 * A 1 → opn A nd a d → d ≠ to → ¬ inb S d → CNC A R d) → (∀ d : Int, 0 ≤ d → d < A 0 * A 1 → opn A nd a d → STL A nd a to V R m d) →
    ∃ R' : Int → Int, L_X1_soonestBy_75 k C goal S m (sk X R) = B_X1_soonestBy_166 (sk X R') ∧ JIN A nd a to V R' ∧ (∀ d : Int, 0 ≤ d → d < A 0 * A 1 → opn A nd a d → ∀ h : Int, 0 ≤ h → h < 8 → V d h ≠ FAR → R' (d * 8 + h) = V d h) := by
  have hcl := BD_cells hB
  have hw := (BD_w hB t0 t1).1
  intro k
  induction k with
  | zero => intro m S R _ hk; omega
  | succ k ih =>
    intro m S R hm hk hJS hS hJ hN hST
    rw [L_X1_soonestBy_75, c2_ok (by omega) (by omega) (by decide) (by decide)]
    by_cases g : 60 ≤ (m : Int)
    · rw [if_pos g]
      refine ⟨R, rfl, hJ, fun d d0 d1 ho h h0 h1 hV => hST d d0 d1 ho h h0 h1 ?_ hV⟩
      have h59 := chn_59 hB hF d0 d1 h0 (show h < 9 by omega) ho hV
      have up1 : ∀ (n : Nat) (c h : Int), chn A nd a to V n c h → chn A nd a to V (n + 1) c h := by
        intro n
        induction n with
        | zero => intro c h e; exact Or.inl e
        | succ n im =>
          intro c h e
          rcases e with e | ⟨e, n', g, e1, e2⟩
          · exact Or.inl e
          · exact Or.inr ⟨e, n', g, e1, im n' g e2⟩
      rw [show m = 60 by omega]
      exact up1 59 d h h59
    · rw [if_neg g, d2_ok hJS.1 hJS.2 (by decide) (by decide)]
      by_cases g2 : S = 0
      · rw [if_pos g2]
        have hnone : ∀ t : Int, ¬ inb S t := by
          rintro t ⟨j, -, h⟩
          rw [g2, btl_0] at h
          cases h
        refine ⟨R, rfl, hJ, fun d d0 d1 ho h h0 h1 hV => ?_⟩
        have all : ∀ n : Nat, ∀ d : Int, 0 ≤ d → d < A 0 * A 1 → opn A nd a d → STL A nd a to V R (m + n) d := by
          intro n
          induction n with
          | zero => exact hST
          | succ n im =>
            intro d d0 d1 ho
            exact STL.next hB hF d0 d1 ho hJ im (fun e => hN d d0 d1 ho e (hnone d))
        have h59 := chn_59 hB hF d0 d1 h0 (show h < 9 by omega) ho hV
        have upn : ∀ (x n : Nat) (c h : Int), chn A nd a to V n c h → chn A nd a to V (x + n) c h := by
          intro x n
          induction n with
          | zero =>
            intro c h e
            cases x with
            | zero => exact e
            | succ x => exact Or.inl e
          | succ n im =>
            intro c h e
            rcases e with e | ⟨e, n', g, e1, e2⟩
            · exact Or.inl e
            · exact Or.inr ⟨e, n', g, e1, im n' g e2⟩
        exact all 59 d d0 d1 ho h h0 h1 (upn m 59 d h h59) hV
      · rw [if_neg g2]
        obtain ⟨R1, Bt, h1, h2, h3, h4, h5⟩ := soon_95 (X := X) (r := r) (C := C) (goal := goal) (S := S) (m := m) hB hG hF hto t0 t1 hS (fun x2 x4 x6 x8 X => L_X1_soonestBy_75 k x2 x4 x6 x8 X) m KF 0 0 R (by omega) (by rw [KF_eq]; omega) hJ (by
          rintro t ⟨j, -, h⟩
          rw [btl_0] at h
          cases h) (by
          intro d d0 d1 ho hdt hcs
          rcases hcs with q | q
          · exact Or.inl (hN d d0 d1 ho hdt q)
          · omega) hST (by
          intro d d0 d1 ho hcs
          rcases hcs with q | q
          · exact STL.next hB hF d0 d1 ho hJ hST (fun e => hN d d0 d1 ho e q)
          · omega)
        have h1' : L_X1_soonestBy_95 (fun x2 x4 x6 x8 X => L_X1_soonestBy_75 k x2 x4 x6 x8 X) KF C goal S m 0 0 (sk X R) = _ := h1
        have hGs : GL A nd r (sk X R1) := hG.fr (fun i h => sk_o (by omega)) (fun k h => by rw [sk_o (by decide)]) (sk_o (by decide))
        obtain ⟨v, e1, e2, e3⟩ := spread_eq (p := Bt) hB hGs (by omega) h3
        have hsb := stale_bits (v := v) (Bt := Bt) hB t0 t1 hC e3
        rw [h1', B_X1_soonestBy_143, e1, cl_some, bd_eq, show (m : Int) + 1 = ((m + 1 : Nat) : Int) from rfl, hg]
        obtain ⟨R', i1, i2⟩ := ih (m + 1) (la (la v C) (lx (lshl 1 to) (-1))) R1 (by omega) (by omega) (la_J _ _) (fun t ht => ((hsb t).mp ht).1) h2 (fun d d0 d1 ho hdt hni => by
          rcases h4 d d0 d1 ho hdt (Or.inr d1) with q | ⟨u, u1, u2⟩
          · exact q
          · exact absurd ((hsb d).mpr ⟨⟨⟨d0, d1⟩, ho, hdt⟩, u, u1, u2⟩) hni) h5
        rw [hg] at i1
        exact ⟨R', i1, i2⟩
theorem soon_26 {X : Mem} {C goal to : Int} (t0 : 0 ≤ to) (t1 : to < 60) : ∀ (k : Nat) (h : Int) (R : Int → Int), 0 ≤ h → h ≤ 8 → (8 - h).toNat < k → X 42 15 = to → L_X1_soonestBy_26 k C goal h (sk X R) = B_X1_soonestBy_55 C goal (sk X (fl R (to * 8 + h) (to * 8 + 8) 0)) := by
  intro k
  induction k with
  | zero => intro h R _ _ hk; omega
  | succ k ih =>
    intro h R h0 h1 hk hX
    rw [L_X1_soonestBy_26, c2_ok (by omega) (by omega) (by decide) (by decide)]
    by_cases g : 8 ≤ h
    · rw [if_pos g, fl_nil (by omega)]
    · rw [if_neg g, sk_o (i := 42) (by decide), hX, ax_ok (by omega) (by omega), bd_eq, sk_ms, ih (h + 1) _ (by omega) (by omega) (by omega) hX, show to * 8 + (h + 1) = to * 8 + h + 1 from by omega, fl_step (by omega)]
/-- the row of minutes, whole -/
def RFU (A : Int → Int) (nd a to : Int) (V : Int → Int → Int) (R : Int → Int) : Prop := JIN A nd a to V R ∧ ∀ d : Int, 0 ≤ d → d < A 0 * A 1 → opn A nd a d → ∀ h : Int, 0 ≤ h → h < 8 → V d h ≠ FAR → R (d * 8 + h) = V d h
theorem soonestBy_1 {X : Mem} {A : Int → Int} {nd r a to : Int} {V : Int → Int → Int} (hB : BD A) (hG : GL A nd r X) (hF : FIX A nd a to V) (hto : opn A nd a to) (t0 : 0 ≤ to) (t1 : to < A 0 * A 1) (h15 : X 42 15 = to) :
    ∃ R : Int → Int, f_X1_soonestBy a X = B_X1_soonestBy_166 (sk X R) ∧ RFU A nd a to V R := by
  have hcl := BD_cells hB
  have hw := (BD_w hB t0 t1).1
  obtain ⟨C, c1, c2⟩ := cellsBy_eq a hB hG
  obtain ⟨T, hT⟩ : ∃ T : Nat, (T : Int) = to := ⟨to.toNat, Int.toNat_of_nonneg t0⟩
  unfold f_X1_soonestBy
  rw [c1, cl_some, bd_eq, h15, fillI (by decide) (by decide), cl_some]
  have e26 := soon_26 (X := X) (C := C) (goal := lshl 1 to) t0 (show to < 60 by omega) KF 0 (fl (X 47) 0 480 1000000000) (by decide) (by decide) (by rw [KF_eq]; decide) h15
  rw [show ma X 47 (fl (X 47) 0 480 1000000000) = sk X (fl (X 47) 0 480 1000000000) from rfl, e26, B_X1_soonestBy_55]
  obtain ⟨R0, hR0⟩ : ∃ R0 : Int → Int, fl (fl (X 47) 0 480 1000000000) (to * 8 + 0) (to * 8 + 8) 0 = R0 := ⟨_, rfl⟩
  have r0 : ∀ d h : Int, 0 ≤ d → d < A 0 * A 1 → 0 ≤ h → h < 8 → R0 (d * 8 + h) = if d = to then 0 else 1000000000 := by
    intro d h d0 d1 h0 h1
    rw [← hR0]
    unfold fl
    by_cases e : d = to
    · rw [if_pos (by omega), if_pos e]
    · rw [if_neg (by omega), if_neg e, if_pos (by omega)]
  rw [hR0]
  have hGs : GL A nd r (sk X R0) := hG.fr (fun i h => sk_o (by omega)) (fun k h => by rw [sk_o (by decide)]) (sk_o (by decide))
  have hgb : ∀ t : Int, inb (lshl 1 to) t ↔ t = to := by
    intro t
    constructor
    · rintro ⟨j, e, h⟩
      rw [← hT, btl_one (by omega), decide_eq_true_eq] at h
      omega
    · intro e
      exact ⟨T, by omega, by rw [← hT, btl_one (by omega), decide_eq_true rfl]⟩
  obtain ⟨v, e1, e2, e3⟩ := spread_eq (p := lshl 1 to) hB hGs (by omega) (fun t ht => by rw [(hgb t).mp ht]; exact t1)
  have hsb := stale_bits (v := v) (Bt := lshl 1 to) hB t0 t1 c2 e3
  rw [e1, cl_some, bd_eq]
  have hJ0 : JIN A nd a to V R0 := by
    intro d d0 d1 h h0 h1
    rw [r0 d h d0 d1 h0 h1]
    refine ⟨by split <;> omega, fun e => if_pos e, fun e => Or.inl (if_neg e)⟩
  obtain ⟨R', i1, i2, i3⟩ := soon_75 (X := X) (r := r) (C := C) (goal := lshl 1 to) hB hG hF hto t0 t1 c2 rfl KF 0 (la (la v C) (lx (lshl 1 to) (-1))) R0 (by decide) (by rw [KF_eq]; decide) (la_J _ _) (fun t ht => ((hsb t).mp ht).1) hJ0 (fun d d0 d1 ho hdt hni => by
    intro h b0 b1 g g0 g1 a1 a2
    have hr := ld_r hB a1
    rw [r0 _ g hr.1 hr.2 g0 g1] at a2
    by_cases e : ld A d g = to
    · exfalso
      apply hni
      rw [hsb]
      refine ⟨⟨⟨d0, d1⟩, ho, hdt⟩, to, (hgb to).mpr rfl, ?_⟩
      rw [← e]
      exact ld_adj hB a1
    · rw [if_neg e] at a2
      omega) (fun d d0 d1 ho h h0 h1 hc hV => by
    have e : d = to := hc
    rw [r0 d h d0 d1 h0 h1, if_pos e, (hF d d0 d1 h h0 (by omega)).2.1 ho e])
  exact ⟨R', i1, i2, i3⟩
