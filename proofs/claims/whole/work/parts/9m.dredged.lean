/-! dredged -/
def cf (c : Int → Bool) (φ : Int → Int) : Nat → Int → Int
  | 0, _ => 0
  | n + 1, t => cf c φ n t + if (c n && decide (t = φ n)) = true then 1 else 0
theorem dotn_zero {w : Int → Int} : ∀ n : Nat, dotn (fun _ => 0) w n = 0
  | 0 => rfl
  | n + 1 => by
    show dotn (fun _ => 0) w n + 0 * w n = 0
    rw [dotn_zero n, Int.zero_mul]
    rfl
theorem reidx {c : Int → Bool} {φ h : Int → Int} (hφ : ∀ s : Int, 0 ≤ s → s < 32 → c s = true → 0 ≤ φ s ∧ φ s < 32) : ∀ n : Nat, n ≤ 32 → sm (fun s => if c s = true then h (φ s) else 0) n = dotn (cf c φ n) h 32
  | 0, _ => (dotn_zero 32).symm
  | n + 1, hn => by
    have ih := reidx (h := h) hφ n (by omega)
    show sm (fun s => if c s = true then h (φ s) else 0) n + (if c n = true then h (φ n) else 0) = dotn (fun t => cf c φ n t + if (c n && decide (t = φ n)) = true then 1 else 0) h 32
    rw [ih, dotn_add]
    congr 1
    by_cases g : c n = true
    · have hp := hφ n (by omega) (by omega) g
      rw [if_pos g]
      have e : dotn (fun t => if (c n && decide (t = φ n)) = true then 1 else 0) h 32 = dotn (fun t => if t = φ n then 1 else 0) h 32 := dotn_ext 32 fun i _ _ => by
        rw [g, Bool.true_and]
        by_cases e : i = φ n
        · rw [if_pos (by simpa using e), if_pos e]
        · rw [if_neg (by simpa using e), if_neg e]
      rw [e, dotn_unit hp.1, if_pos (by omega)]
    · rw [if_neg g]
      have e : dotn (fun t => if (c n && decide (t = φ n)) = true then 1 else 0) h 32 = dotn (fun _ => 0) h 32 := dotn_ext 32 fun i _ _ => by
        rw [Bool.eq_false_iff.mpr g, Bool.false_and, if_neg (by decide)]
      rw [e, dotn_zero]
theorem sm_add {v w : Int → Int} : ∀ n : Nat, sm (fun s => v s + w s) n = sm v n + sm w n
  | 0 => rfl
  | n + 1 => by
    show sm (fun s => v s + w s) n + (v n + w n) = sm v n + v n + (sm w n + w n)
    rw [sm_add n]
    omega
theorem sg_sm {q : Int → Bool} {w : Int → Int} : ∀ n : Nat, sg q w n = sm (fun s => if q s = true then w s else 0) n
  | 0 => rfl
  | n + 1 => by
    show sg q w n + (if q n = true then w n else 0) = sm (fun s => if q s = true then w s else 0) n + (if q n = true then w n else 0)
    rw [sg_sm n]
theorem sm_dot {w : Int → Int} {c : Int → Int} : ∀ n : Nat, dotn c w n = sm (fun s => c s * w s) n
  | 0 => rfl
  | n + 1 => by
    show dotn c w n + c n * w n = sm (fun s => c s * w s) n + c n * w n
    rw [sm_dot n]
theorem dr1 : ∀ (b : Fin 5) (s l : Fin 32), ia (s.val : Int) (ishl 1 (b.val : Int)) = 0 → (ia (s.val : Int) (ia (l.val : Int) (ix (ishl 1 (b.val : Int)) (-1))) = 0 ↔ ia (s.val : Int) (l.val : Int) = 0) ∧ (ia (io (s.val : Int) (ishl 1 (b.val : Int))) (ia (l.val : Int) (ix (ishl 1 (b.val : Int)) (-1))) = 0 ↔ ia (s.val : Int) (l.val : Int) = 0) := by decide +kernel
theorem dr3 : ∀ (b : Fin 5) (s : Fin 32), ia (s.val : Int) (ishl 1 (b.val : Int)) = 0 → s.val ≤ io (s.val : Int) (ishl 1 (b.val : Int)) ∧ io (s.val : Int) (ishl 1 (b.val : Int)) < 32 := by decide +kernel
theorem dr4 : ∀ (b : Fin 5) (t : Fin 32), cf (fun s => decide (ia s (ishl 1 (b.val : Int)) = 0)) (fun s => io s (ishl 1 (b.val : Int))) 32 (t.val : Int) = if ia (t.val : Int) (ishl 1 (b.val : Int)) = 0 then 0 else 1 := by decide +kernel
theorem an0 : ∀ s : Fin 32, ia (s.val : Int) 0 = 0 := by decide +kernel
theorem an_0 {s : Int} (s0 : 0 ≤ s) (s1 : s < 32) : ia s 0 = 0 := by
  obtain ⟨sf, rfl⟩ := fin32 s0 s1
  exact an0 sf
/-- the weights of a river whose bar b is dredged -/
def dgw (P : Int → Int) (t s : Int) : Int := if ia s t = 0 then P s + P (io s t) else 0
theorem dr_sum {P : Int → Int} {b l : Int} (b0 : 0 ≤ b) (b1 : b < 5) (l0 : 0 ≤ l) (l1 : l < 32) : pS (dgw P (ishl 1 b)) 0 l = pS P 0 (ia l (ix (ishl 1 b) (-1))) := by
  obtain ⟨bf, rfl⟩ := fin5 b0 b1
  obtain ⟨lf, rfl⟩ := fin32 l0 l1
  have ex : ∀ s : Int, 0 ≤ s → s < 32 → ∃ sf : Fin 32, (sf.val : Int) = s := fun s s0 s1 => fin32 s0 s1
  generalize ht : ishl 1 (bf.val : Int) = t at *
  generalize hl' : ia (lf.val : Int) (ix t (-1)) = l'
  let h : Int → Int := fun s => if ia s l' = 0 then P s else 0
  have e1 : pS (dgw P t) 0 (lf.val : Int) = sm (fun s => (if ia s t = 0 then h s else 0) + (if decide (ia s t = 0) = true then h (io s t) else 0)) 32 := by
    unfold pS
    rw [sg_sm]
    refine sm_ext 32 fun s s0 s1 => ?_
    obtain ⟨sf, rfl⟩ := ex s s0 s1
    have z := an0 sf
    have d := dr1 bf sf lf
    rw [ht, hl'] at d
    unfold pq dgw
    by_cases g : ia (sf.val : Int) t = 0
    · have d := d g
      by_cases g2 : ia (sf.val : Int) (lf.val : Int) = 0
      · have d1 := d.1.mpr g2
        have d2 := d.2.mpr g2
        show _ = (if ia (sf.val : Int) t = 0 then (if ia (sf.val : Int) l' = 0 then P sf.val else 0) else 0) + (if decide (ia (sf.val : Int) t = 0) = true then (if ia (io (sf.val : Int) t) l' = 0 then P (io sf.val t) else 0) else 0)
        simp only [z, g, g2, d1, d2, decide_true, Bool.and_true, if_true]
      · have d1 : ¬ ia (sf.val : Int) l' = 0 := fun e => g2 (d.1.mp e)
        have d2 : ¬ ia (io (sf.val : Int) t) l' = 0 := fun e => g2 (d.2.mp e)
        show _ = (if ia (sf.val : Int) t = 0 then (if ia (sf.val : Int) l' = 0 then P sf.val else 0) else 0) + (if decide (ia (sf.val : Int) t = 0) = true then (if ia (io (sf.val : Int) t) l' = 0 then P (io sf.val t) else 0) else 0)
        simp only [z, g, g2, d1, d2, decide_true, decide_false, Bool.and_false, Bool.false_eq_true, if_true, if_false]
        rfl
    · show _ = (if ia (sf.val : Int) t = 0 then (if ia (sf.val : Int) l' = 0 then P sf.val else 0) else 0) + (if decide (ia (sf.val : Int) t = 0) = true then (if ia (io (sf.val : Int) t) l' = 0 then P (io sf.val t) else 0) else 0)
      simp only [g, decide_false, Bool.false_eq_true, if_false, ite_self]
      rfl
  have e2 : sm (fun s => if decide (ia s t = 0) = true then h (io s t) else 0) 32 = sm (fun s => if ia s t = 0 then 0 else h s) 32 := by
    rw [reidx (c := fun s => decide (ia s t = 0)) (φ := fun s => io s t) (h := h) (fun s s0 s1 hc => by
      obtain ⟨sf, rfl⟩ := ex s s0 s1
      have d := dr3 bf sf
      rw [ht] at d
      have d := d (by simpa using hc)
      exact ⟨by omega, d.2⟩) 32 (Nat.le_refl _), sm_dot]
    refine sm_ext 32 fun s s0 s1 => ?_
    obtain ⟨sf, rfl⟩ := ex s s0 s1
    have d := dr4 bf sf
    rw [ht] at d
    rw [d]
    split
    · rw [Int.zero_mul]
    · rw [Int.one_mul]
  rw [e1, sm_add, e2, ← sm_add]
  unfold pS
  rw [sg_sm]
  refine sm_ext 32 fun s s0 s1 => ?_
  have z := an_0 s0 s1
  unfold pq
  show (if ia s t = 0 then (if ia s l' = 0 then P s else 0) else 0) + (if ia s t = 0 then 0 else (if ia s l' = 0 then P s else 0)) = _
  by_cases g : ia s t = 0 <;> by_cases g2 : ia s l' = 0 <;> simp [z, g, g2]
theorem dr3' {b s : Int} (b0 : 0 ≤ b) (b1 : b < 5) (s0 : 0 ≤ s) (s1 : s < 32) (h : ia s (ishl 1 b) = 0) : s ≤ io s (ishl 1 b) ∧ io s (ishl 1 b) < 32 := by
  obtain ⟨bf, rfl⟩ := fin5 b0 b1
  obtain ⟨sf, rfl⟩ := fin32 s0 s1
  exact dr3 bf sf h
theorem sh_32 : ∀ b : Fin 5, 0 ≤ ishl 1 (b.val : Int) ∧ ishl 1 (b.val : Int) < 32 := by decide +kernel
theorem dgw_wt {P A : Int → Int} (h : TH P A) (hN : 1 ≤ NS A) {b : Int} (b0 : 0 ≤ b) (b1 : b < 5) : WT A (dgw P (ishl 1 b)) := by
  have hb : ∀ s : Int, 0 ≤ s → s < 32 → 0 ≤ dgw P (ishl 1 b) s ∧ dgw P (ishl 1 b) s ≤ 2000000 := fun s s0 s1 => by
    unfold dgw
    split
    · rename_i g
      have d := dr3' b0 b1 s0 s1 g
      have h1 := h.1 s s0 s1
      have h2 := h.1 (io s (ishl 1 b)) (by omega) d.2
      omega
    · exact ⟨by decide, by decide⟩
  refine ⟨fun s a b => (hb s a b).1, fun s a b => ?_, ?_⟩
  · unfold dgw
    split
    · rename_i g
      have d := dr3' b0 b1 (by omega) b g
      rw [h.2.2.1 s a b, h.2.2.1 _ (by omega) d.2]
      rfl
    · rfl
  · have := (sm_r (w := dgw P (ishl 1 b)) (B := 2000000) hb 32 (Nat.le_refl _)).2
    omega
theorem dredg_6 {X : Mem} {P : Int → Int} {b : Int} (b0 : 0 ≤ b) (b1 : b < 5) (h18 : X 18 = P) : ∀ (k : Nat) (i : Int) (G : Int → Int), 0 ≤ i → i ≤ 32 → (32 - i).toNat < k → (∀ s : Int, 0 ≤ s → s < i → G s = dgw P (ishl 1 b) s) →
    ∃ G' : Int → Int, L_X11_partsDredged_6 k (ishl 1 b) i (ma X 59 G) = B_X11_partsDredged_55 (ma X 59 G') ∧ ∀ s : Int, 0 ≤ s → s < 32 → G' s = dgw P (ishl 1 b) s := by
  have hsh : 0 ≤ ishl 1 b ∧ ishl 1 b < 32 := by
    obtain ⟨bf, rfl⟩ := fin5 b0 b1
    exact sh_32 bf
  intro k
  induction k with
  | zero => intro i _ _ _ h; omega
  | succ k ih =>
    intro i G i0 i1 hk hG
    rw [L_X11_partsDredged_6, c2_ok (by omega) (by omega) (by decide) (by decide)]
    by_cases g : 32 ≤ i
    · rw [if_pos g]
      exact ⟨G, rfl, fun s s0 s1 => hG s s0 (by omega)⟩
    · have hx := an_32 i0 (by omega) hsh.1 hsh.2
      have hw : ∀ v : Int, v = dgw P (ishl 1 b) i → ∀ s : Int, 0 ≤ s → s < i + 1 → up G i v s = dgw P (ishl 1 b) s := fun v hv s s0 s1 => by
        rw [up_at]
        by_cases e : s = i
        · rw [if_pos e, hv, e]
        · rw [if_neg e]
          exact hG s s0 (by omega)
      rw [if_neg g, ma_ne (by decide), h18, c1_okk (by omega) (by omega)]
      by_cases g2 : ia i (ishl 1 b) = 0
      · have d := dr3' b0 b1 i0 (by omega) g2
        rw [if_neg (by simpa using g2), ax_ok i0 (by omega), ax_ok (by omega) d.2, B_X11_partsDredged_48, ax_ok i0 (by omega), bd_eq, ms_row]
        exact ih (i + 1) _ (by omega) (by omega) (by omega) (hw _ (by unfold dgw; rw [if_pos g2]))
      · rw [if_pos g2, B_X11_partsDredged_48, ax_ok i0 (by omega), bd_eq, ms_row]
        exact ih (i + 1) _ (by omega) (by omega) (by omega) (hw _ (by unfold dgw; rw [if_neg g2]))
theorem WT.ext {A v w : Int → Int} (h : WT A v) (hN : 1 ≤ NS A) (e : ∀ s : Int, 0 ≤ s → s < 32 → w s = v s) : WT A w := by
  refine ⟨fun s a b => by rw [e s a b]; exact h.1 s a b, fun s a b => by rw [e s (by omega) b]; exact h.2.1 s a b, ?_⟩
  rw [sm_ext 32 e]
  exact h.2.2
theorem dredg_v {X : Mem} {A P : Int → Int} {nd r f to b : Int} (hB : BD A) (hG : GL A nd r X) (hS : SRC A nd f to (NS A) X) (hT : TH P A) (h18 : X 18 = P) (b0 : 0 ≤ b) (b1 : b < A 2) : ∃ (v : Int) (G S : Int → Int), f_X11_partsDredged b X = some (v, ma (ma X 59 G) 45 S) ∧ (0 ≤ v ∧ v ≤ 1000000) ∧ ∀ v' : Int, MX A nd f to (fun l => pS P 0 (ia l (ix (ishl 1 b) (-1)))) (NS A) v' → v' = v := by
  have hN := NS_r hB.2.1
  have hA2 := hB.2.1
  obtain ⟨G, t1, t2⟩ := dredg_6 (X := X) (P := P) b0 (by omega) h18 KF 0 (X 59) (by decide) (by decide) (by rw [KF_eq]; omega) (fun s _ _ => by omega)
  rw [ma_self] at t1
  have hG3 : GL A nd r (ma X 59 G) := hG.fr (fun i x => ma_ne (by omega)) (fun q x => by rw [ma_ne (by decide)]) (ma_ne (by decide))
  have hS3 : SRC A nd f to (NS A) (ma X 59 G) := by
    have e42 : (ma X 59 G) 42 2 = X 42 2 := by rw [ma_ne (by decide)]
    have e43 : (ma X 59 G) 43 = X 43 := ma_ne (by decide)
    have e44 : (ma X 59 G) 44 = X 44 := ma_ne (by decide)
    unfold SRC
    rw [e42, e43, e44]
    exact hS
  have hW : WT A G := (dgw_wt hT hN.1 b0 (by omega)).ext hN.1 t2
  obtain ⟨m, S, b1', b2, -⟩ := bestOf_eq (p := 59) (w := G) hB hG3 hS3 (by rw [ma_same]; exact hW) ma_same
  have eG : ∀ l : Int, 0 ≤ l → l < NS A → pS P 0 (ia l (ix (ishl 1 b) (-1))) = pS G 0 l := fun l l0 l1 => by
    rw [← dr_sum b0 (by omega) l0 (by omega)]
    exact (pS_ext t2).symm
  refine ⟨m, G, S, ?_, ⟨b2.1.1, ?_⟩, fun v' hv => BO_mx b2 hv eG fun l _ _ => hW.r.1⟩
  · unfold f_X11_partsDredged
    rw [bd_eq, t1, B_X11_partsDredged_55, b1', cl_some]
  · rcases b2.2.2 with ⟨e, -⟩ | ⟨l, ⟨l0, l1⟩, -, e⟩
    · omega
    · have p1 := TH_r hT (a := 0) (b := ia l (ix (ishl 1 b) (-1)))
      have := eG l l0 l1
      omega
theorem dredgm_66 {Y : Mem} {P : Int → Int} {nd f to b x3 x4 : Int} (hB : BD (Y 121)) (f0 : 0 ≤ f) (f1 : f < Y 121 0 * Y 121 1) (hT : TH P (Y 121)) (hF : ∀ a : Int, 0 ≤ a → a < NS (Y 121) → FEW (Y 121) nd f to a (Y 134 a)) (go : Int → Int → Int → Mem → Option (Int × Mem)) : ∀ (k : Nat) (v q : Int), 0 ≤ q → q ≤ NS (Y 121) → (NS (Y 121) - q).toNat < k → (0 ≤ v ∧ v ≤ 1000000) → MX (Y 121) nd f to (fun l => pS P 0 (ia l (ix (ishl 1 b) (-1)))) q v →
    ∃ v' : Int, L_X12_dredged_66 go k x3 x4 b v q Y = B_X12_dredged_113 go x3 x4 b v' Y ∧ MX (Y 121) nd f to (fun l => pS P 0 (ia l (ix (ishl 1 b) (-1)))) (NS (Y 121)) v' := by
  have hN := NS_r hB.2.1
  intro k
  induction k with
  | zero => intro v q _ _ h; omega
  | succ k ih =>
    intro v q q0 q1 hk hv hM
    have e2 : f_X12_sets Y = some (NS (Y 121), Y) := sets_eq
    rw [L_X12_dredged_66, e2, cl_some, c2_ok (by omega) (by omega) (by omega) (by omega)]
    by_cases g : NS (Y 121) ≤ q
    · rw [if_pos g]
      exact ⟨v, rfl, by rw [show NS (Y 121) = q by omega]; exact hM⟩
    · have hf := few_ne hB f0 f1 (hF q q0 (by omega))
      rw [if_neg g, ax_ok q0 (by omega), c2_ok (by omega) (by omega) (by decide) (by decide)]
      rcases hf with ⟨e, hn⟩ | ⟨e1, e3, hn⟩
      · rw [if_pos e, B_X12_dredged_107]
        exact ih v (q + 1) (by omega) (by omega) (by omega) hv (hM.no hn)
      · have p1 := TH_r hT (a := 0) (b := ia q (ix (ishl 1 b) (-1)))
        rw [if_neg (by omega), partsOf_eq hT hB.2.1 (inI_s (by decide) (by decide)), cl_some, d2_ok (by omega) (by omega) (by omega) (by omega), bd_eq, B_X12_dredged_107]
        exact ih _ (q + 1) (by omega) (by omega) (by omega) (by omega) (hM.yes q0 hn)
theorem dredg_lk {X0 : Mem} {A P : Int → Int} {nd r f to : Int} (hB : BD A) (hG : GL A nd r X0) (hS : SRC A nd f to (NS A) X0) (hT : TH P A) (h18 : X0 18 = P) (h20 : X0 2 0 = r) (f0 : 0 ≤ f) (f1 : f < A 0 * A 1) : ∀ (k : Nat) (b best v : Int) (X : Mem), 0 ≤ b → b ≤ A 2 → (A 2 - b).toNat < k → (∀ i : Int, i ≠ 45 → i ≠ 59 → X i = X0 i) → (0 ≤ v ∧ v ≤ 1000000) → ((best = -1 ∧ b = 0) ∨ (0 ≤ best ∧ best < b)) →
    ∃ (best' v' : Int) (Y : Mem), L_X11_dredged_26 k best v b X = B_X11_dredged_77 best' v' Y ∧ (∀ i : Int, i ≠ 45 → i ≠ 59 → Y i = X0 i) ∧ (0 ≤ v' ∧ v' ≤ 1000000) ∧ ((best' = -1 ∧ A 2 = 0) ∨ (0 ≤ best' ∧ best' < A 2)) ∧
      ∀ Z : Mem, Z 121 = A → (∀ a : Int, 0 ≤ a → a < NS A → FEW A nd f to a (Z 134 a)) → L_X12_dredged_49 k best v b Z = B_X12_dredged_142 best' v' Z := by
  have hA2 := hB.2.1
  have hN := NS_r hB.2.1
  have hG' := hG
  obtain ⟨hr, hR, -⟩ := hG'
  have hrr := RIV_r hr
  have hR2 : X0 r 2 = A 2 := hR.1.2.2.1
  intro k
  induction k with
  | zero => intro b best v X _ _ h; omega
  | succ k ih =>
    intro b best v X b0 b1 hk hX hv hbest
    have eZ : ∀ Z : Mem, Z 121 = A → ∀ o, L_X12_dredged_49 (k + 1) best v b Z = o → _ := fun Z z1 o ho => by
      rw [L_X12_dredged_49, ax_ok (n := 2200) (by decide) (by decide), z1, c2_ok (by omega) (by omega) (by omega) (by omega)] at ho
      exact ho
    rw [L_X11_dredged_26, hX 2 (by decide) (by decide), h20, cm_ok hr, hX r (by omega) (by omega), hR2, c2_ok (by omega) (by omega) (by omega) (by omega)]
    by_cases g : A 2 ≤ b
    · rw [if_pos g]
      refine ⟨best, v, X, rfl, hX, hv, by omega, fun Z z1 _ => ?_⟩
      rw [← eZ Z z1 _ rfl, if_pos g]
    · have hGX : GL A nd r X := hG.fr (fun i x => hX i (by omega) (by omega)) (fun q x => by rw [hX 42 (by decide) (by decide)]) (hX 46 (by decide) (by decide))
      have hSX : SRC A nd f to (NS A) X := by
        unfold SRC
        rw [hX 42 (by decide) (by decide), hX 43 (by decide) (by decide), hX 44 (by decide) (by decide)]
        exact hS
      obtain ⟨m, G, S, m1, m2, m3⟩ := dredg_v (b := b) hB hGX hSX hT (by rw [hX 18 (by decide) (by decide)]; exact h18) b0 (by omega)
      have hY : ∀ i : Int, i ≠ 45 → i ≠ 59 → ma (ma X 59 G) 45 S i = X0 i := fun i i1 i2 => by
        rw [ma_ne i1, ma_ne i2]
        exact hX i i1 i2
      have hZ2 : ∀ Z : Mem, Z 121 = A → (∀ a : Int, 0 ≤ a → a < NS A → FEW A nd f to a (Z 134 a)) → L_X12_dredged_49 (k + 1) best v b Z = B_X12_dredged_113 (fun x3 x4 x6 X => L_X12_dredged_49 k x3 x4 x6 X) best v b m Z := fun Z z1 zf => by
        obtain ⟨v', i1, i2⟩ := dredgm_66 (Y := Z) (P := P) (nd := nd) (f := f) (to := to) (b := b) (x3 := best) (x4 := v) (by rw [z1]; exact hB) f0 (by rw [z1]; exact f1) (by rw [z1]; exact hT) (by rw [z1]; exact zf) (fun x3 x4 x6 X => L_X12_dredged_49 k x3 x4 x6 X) KF 0 0 (by decide) (by rw [z1]; omega) (by rw [KF_eq, z1]; omega) ⟨by decide, by decide⟩ MX.zero
        rw [z1] at i2
        rw [← eZ Z z1 _ rfl, if_neg g, i1, m3 v' i2]
      rw [if_neg g, m1, cl_some, c2_ok (by omega) (by omega) (by decide) (by decide)]
      by_cases g2 : best = -1
      · obtain ⟨be, ve, Y, q1, q2, q3, q4, q5⟩ := ih (b + 1) b m _ (by omega) (by omega) (by omega) hY m2 (Or.inr ⟨b0, by omega⟩)
        refine ⟨be, ve, Y, ?_, q2, q3, q4, fun Z z1 zf => ?_⟩
        · rw [if_pos g2, B_X11_dredged_63, B_X11_dredged_71, q1]
        · rw [hZ2 Z z1 zf, B_X12_dredged_113, c2_ok (by omega) (by omega) (by decide) (by decide), if_pos g2, B_X12_dredged_129, B_X12_dredged_136]
          exact q5 Z z1 zf
      · rw [if_neg g2, d2_ok (by omega) (by omega) (by omega) (by omega)]
        by_cases g3 : m ≤ v
        · obtain ⟨be, ve, Y, q1, q2, q3, q4, q5⟩ := ih (b + 1) best v _ (by omega) (by omega) (by omega) hY hv (Or.inr ⟨by omega, by omega⟩)
          refine ⟨be, ve, Y, ?_, q2, q3, q4, fun Z z1 zf => ?_⟩
          · rw [if_pos g3, B_X11_dredged_71, q1]
          · rw [hZ2 Z z1 zf, B_X12_dredged_113, c2_ok (by omega) (by omega) (by decide) (by decide), if_neg g2, d2_ok (by omega) (by omega) (by omega) (by omega), if_neg (by omega), B_X12_dredged_136]
            exact q5 Z z1 zf
        · obtain ⟨be, ve, Y, q1, q2, q3, q4, q5⟩ := ih (b + 1) b m _ (by omega) (by omega) (by omega) hY m2 (Or.inr ⟨b0, by omega⟩)
          refine ⟨be, ve, Y, ?_, q2, q3, q4, fun Z z1 zf => ?_⟩
          · rw [if_neg g3, B_X11_dredged_63, B_X11_dredged_71, q1]
          · rw [hZ2 Z z1 zf, B_X12_dredged_113, c2_ok (by omega) (by omega) (by decide) (by decide), if_neg g2, d2_ok (by omega) (by omega) (by omega) (by omega), if_pos (by omega), B_X12_dredged_129, B_X12_dredged_136]
            exact q5 Z z1 zf
theorem q_dredged : pair_38 REL := by
  intro f to hf ht cn X hcn h
  obtain ⟨n1, n2, n3, n4, n5, n6⟩ := h.now
  have hN := NS_r n3.2.1
  have hA2 := n3.2.1
  have eM : ∀ v : Int, ms X 0 16 v 121 = X 121 := fun v => s16 (by decide)
  show OUT cn (f_X11_dredged f to) (f_X12_dredged f to) X
  by_cases gc : (0 ≤ f ∧ f < X 121 0 * X 121 1) ∧ (0 ≤ to ∧ to < X 121 0 * X 121 1)
  · obtain ⟨g1, g2⟩ := gc
    obtain ⟨Y1, y0, yG, y14, y15, yS, yc⟩ := choice_yes h hf ht g1 g2
    have y18 : Y1 18 = X 18 := funext fun k => y0 18 k (by unfold SCR; omega)
    have y20 : Y1 2 0 = X 2 0 := y0 2 0 (by unfold SCR; omega)
    -- refused
    have hno6 : ∀ Y : Mem, (∀ i k : Int, ¬ SCR i k → Y i k = X i k) → f_X11_dredged f to X = some (-1, ms Y 0 16 6) → (X 121 2 = 0 ∨ ∀ b : Int, 0 ≤ b → b < NS (X 121) → ¬ WAYP (X 121) (ND (X 121)) f to b) → OUT cn (f_X11_dredged f to) (f_X12_dredged f to) X := fun Y hY e hw => by
      obtain ⟨b1, b2, b3⟩ := h.scr (Y := ms Y 0 16 6) (fun i k q1 q2 => by rw [ms_at, if_neg (by unfold ANS at q2; omega)]; exact hY i k q1)
      refine out_scr h hY (r := -1) (v := 6) (by decide) (by decide) inI_m1 e ?_
      by_cases z : X 121 2 = 0
      · refine ⟨ms Y 0 16 6, ?_, fun i k _ _ => rfl, b3⟩
        unfold f_X12_dredged
        rw [areCells_eq b1 hf ht, b2, if_pos ⟨g1, g2⟩, cl_some, c1_okk (by decide) (by decide), if_pos (by decide), ax_ok (n := 2200) (by decide) (by decide), b2, z, c1_okk (by decide) (by decide), if_pos rfl, B_X12_dredged_34, refusem_eq, cl_some]
      · obtain ⟨a', Z1, r1, r2, r3, r4, r5⟩ := surestOf_eq (P := X 18) (f := f) (to := to) b1 b3 (by omega) (by rw [b2]; exact n6) g1.1 (by rw [b2]; exact g1.2) g2.1 (by rw [b2]; exact g2.2)
        rw [b2] at r4 r5
        have ea : a' = -1 := by
          rcases r5 with ⟨r5, -⟩ | r5
          · exact r5
          · rcases hw with hw | hw
            · exact absurd hw z
            · exact absurd r5.2.1 (hw a' r5.1.1 r5.1.2)
        refine ⟨Z1, ?_, fun i k q1 q4 => r2 i k (by unfold CKC at q4; omega) (by unfold SCR at q1; omega) (by unfold SCR at q1; omega) (by unfold CKC at q4; omega), r3⟩
        unfold f_X12_dredged
        rw [areCells_eq b1 hf ht, b2, if_pos ⟨g1, g2⟩, cl_some, c1_okk (by decide) (by decide), if_pos (by decide), ax_ok (n := 2200) (by decide) (by decide), b2, c1_okk (by omega) (by omega), if_neg z, r1, cl_some, ea, c2_ok (by decide) (by decide) (by decide) (by decide), if_neg (by decide), B_X12_dredged_34, refusem_eq, cl_some]
    rcases yc with ⟨hex, ec⟩ | ⟨hno, ec⟩
    · obtain ⟨be, ve, Y, q1, q2, q3, q4, q5⟩ := dredg_lk (X0 := Y1) (A := X 121) (P := X 18) (nd := ND (X 121)) (r := X 2 0) (f := f) (to := to) n3 yG yS n6 y18 y20 g1.1 g1.2 KF 0 (-1) 0 Y1 (by decide) (by omega) (by rw [KF_eq]; omega) (fun i _ _ => rfl) ⟨by decide, by decide⟩ (Or.inl ⟨rfl, rfl⟩)
      have hY : ∀ i k : Int, ¬ SCR i k → Y i k = X i k := fun i k q => by
        rw [q2 i (by unfold SCR at q; omega) (by unfold SCR at q; omega)]
        exact y0 i k q
      rcases q4 with ⟨z1, z2⟩ | ⟨z1, z2⟩
      · refine hno6 Y hY ?_ (Or.inl z2)
        unfold f_X11_dredged
        rw [ec, cl_some, c1_okk (by decide) (by decide), if_pos rfl, q1, B_X11_dredged_77, z1, c2_ok (by decide) (by decide) (by decide) (by decide), if_neg (by decide), fail_eq, cl_some]
      · have hJ := frac_J (a := ve) (b := 1000000) q3.1 (by omega) (by decide) (by decide)
        refine out_fs h hY hJ.1 hJ.2 (r := be) (inI_s (by omega) (by omega)) ?_ fun x121 hck => ?_
        · unfold f_X11_dredged
          rw [ec, cl_some, c1_okk (by decide) (by decide), if_pos rfl, q1, B_X11_dredged_77, c2_ok (by omega) (by omega) (by decide) (by decide), if_pos (by omega), tellF_s q3.1 (by omega) (by decide) (by decide), cl_some, answer_eq, cl_some, fC_16]
        · obtain ⟨a', Z1, r1, r2, r3, r4, r5⟩ := surestOf_eq (P := X 18) (f := f) (to := to) (by rw [x121]; exact n3) hck (by omega) (by rw [x121]; exact n6) g1.1 (by rw [x121]; exact g1.2) g2.1 (by rw [x121]; exact g2.2)
          rw [x121] at r4 r5
          have ea : 0 ≤ a' ∧ a' < NS (X 121) := by
            rcases r5 with ⟨-, r5⟩ | r5
            · obtain ⟨a, ⟨a0, a1⟩, a2⟩ := hex
              exact absurd a2 (r5 a a0 a1)
            · exact r5.1
          have z121 : Z1 121 = X 121 := by
            rw [← x121]
            exact funext fun k => r2 121 k (by omega) (by decide) (by decide) (by decide)
          refine ⟨Z1, ?_, fun i k q1 q4 => r2 i k (by unfold CKC at q4; omega) (by unfold SCR at q1; omega) (by unfold SCR at q1; omega) (by unfold CKC at q4; omega), r3⟩
          unfold f_X12_dredged
          rw [areCells_eq (by rw [x121]; exact n3) hf ht, x121, if_pos ⟨g1, g2⟩, cl_some, c1_okk (by decide) (by decide), if_pos (by decide), ax_ok (n := 2200) (by decide) (by decide), x121, c1_okk (by omega) (by omega), if_neg (by omega), r1, cl_some, c2_ok (by omega) (by omega) (by decide) (by decide), if_pos (by omega), q5 Z1 z121 r4, B_X12_dredged_142, tellsBy_s q3.1 (by omega) (by decide) (by decide), cl_some, gives_eq, cl_some, fM_2]
    · refine hno6 Y1 y0 ?_ (Or.inr hno)
      unfold f_X11_dredged
      rw [ec, cl_some, c1_ok (by decide) (by decide), if_neg (by decide), fail_eq, cl_some]
  · refine out_st h (r := -1) (v := 1) (by decide) (by decide) inI_m1 ?_ ?_
    · unfold f_X11_dredged
      rw [choice_no h hf ht gc, cl_some, c1_ok (by decide) (by decide), if_neg (by decide), fail_eq, cl_some]
    · unfold f_X12_dredged
      rw [areCells_eq (by rw [eM]; exact n3) hf ht, eM, if_neg gc, cl_some, c1_ok (by decide) (by decide), if_neg (by decide), refusem_eq, cl_some]
