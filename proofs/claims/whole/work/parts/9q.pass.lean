/-! a day passes -/
def gx (A : Int → Int) (e m b : Int) : Int := if b = e then min 16 (A (28 + 4 * b + 2) + m) else A (28 + 4 * b + 2)
def bf (g c t : Int) (W : Int → Int) (s : Int) : Int := if ia s t = 0 then W s * (16 - c) + W (io s t) * g else W (ia s (ix t (-1))) * c + W s * (16 - g)
def PW (A : Int → Int) (e m : Int) (P : Int → Int) : Nat → Int → Int
  | 0 => P
  | n + 1 => bf (gx A e m n) (A (28 + 4 * (n : Int) + 3)) (ishl 1 (n : Int)) (PW A e m P n)
theorem pf1 : ∀ (b : Fin 5) (s : Fin 32), ia (s.val : Int) (ishl 1 (b.val : Int)) = 0 → ia (s.val : Int) (ix (ishl 1 (b.val : Int)) (-1)) = s.val ∧ ia (io (s.val : Int) (ishl 1 (b.val : Int))) (ix (ishl 1 (b.val : Int)) (-1)) = s.val ∧ ia (io (s.val : Int) (ishl 1 (b.val : Int))) (ishl 1 (b.val : Int)) ≠ 0 ∧ (s.val : Int) < io (s.val : Int) (ishl 1 (b.val : Int)) ∧ io (s.val : Int) (ishl 1 (b.val : Int)) < 32 := by decide +kernel
theorem pf2 : ∀ (b : Fin 5) (s : Fin 32), 0 ≤ ia (s.val : Int) (ix (ishl 1 (b.val : Int)) (-1)) ∧ ia (s.val : Int) (ix (ishl 1 (b.val : Int)) (-1)) ≤ s.val ∧ ia (ia (s.val : Int) (ix (ishl 1 (b.val : Int)) (-1))) (ishl 1 (b.val : Int)) = 0 ∧ ((s.val : Int) = ia (s.val : Int) (ix (ishl 1 (b.val : Int)) (-1)) ∨ (s.val : Int) = io (ia (s.val : Int) (ix (ishl 1 (b.val : Int)) (-1))) (ishl 1 (b.val : Int))) ∧ ((s.val : Int) = io (s.val : Int) (ishl 1 (b.val : Int)) ↔ ia (s.val : Int) (ishl 1 (b.val : Int)) ≠ 0) := by decide +kernel
theorem pf3 : ∀ (m : Fin 6) (b : Fin 5) (s : Fin 32), b.val < m.val → (s.val < 2 ^ m.val → io (s.val : Int) (ishl 1 (b.val : Int)) < ((2 ^ m.val : Nat) : Int)) ∧ (2 ^ m.val ≤ s.val → ((2 ^ m.val : Nat) : Int) ≤ ia (s.val : Int) (ix (ishl 1 (b.val : Int)) (-1))) := by decide +kernel
theorem pf_1 {b s : Int} (b0 : 0 ≤ b) (b1 : b < 5) (s0 : 0 ≤ s) (s1 : s < 32) (h : ia s (ishl 1 b) = 0) : ia s (ix (ishl 1 b) (-1)) = s ∧ ia (io s (ishl 1 b)) (ix (ishl 1 b) (-1)) = s ∧ ia (io s (ishl 1 b)) (ishl 1 b) ≠ 0 ∧ s < io s (ishl 1 b) ∧ io s (ishl 1 b) < 32 := by
  obtain ⟨bf, rfl⟩ := fin5 b0 b1
  obtain ⟨sf, rfl⟩ := fin32 s0 s1
  exact pf1 bf sf h
theorem pf_2 {b s : Int} (b0 : 0 ≤ b) (b1 : b < 5) (s0 : 0 ≤ s) (s1 : s < 32) : 0 ≤ ia s (ix (ishl 1 b) (-1)) ∧ ia s (ix (ishl 1 b) (-1)) ≤ s ∧ ia (ia s (ix (ishl 1 b) (-1))) (ishl 1 b) = 0 ∧ (s = ia s (ix (ishl 1 b) (-1)) ∨ s = io (ia s (ix (ishl 1 b) (-1))) (ishl 1 b)) ∧ (s = io s (ishl 1 b) ↔ ia s (ishl 1 b) ≠ 0) := by
  obtain ⟨bf, rfl⟩ := fin5 b0 b1
  obtain ⟨sf, rfl⟩ := fin32 s0 s1
  exact pf2 bf sf
theorem pf_3 {A : Int → Int} {b s : Int} (hA : 0 ≤ A 2 ∧ A 2 ≤ 5) (b0 : 0 ≤ b) (b1 : b < A 2) (s0 : 0 ≤ s) (s1 : s < 32) : (s < NS A → io s (ishl 1 b) < NS A) ∧ (NS A ≤ s → NS A ≤ ia s (ix (ishl 1 b) (-1))) := by
  obtain ⟨n1, n2, n3⟩ := NS_v hA
  obtain ⟨bf, rfl⟩ := fin5 b0 (by omega)
  obtain ⟨sf, rfl⟩ := fin32 s0 s1
  have h := pf3 ⟨(A 2).toNat, by omega⟩ bf sf (by show bf.val < (A 2).toNat; omega)
  rw [n1]
  exact ⟨fun e => h.1 (Int.ofNat_lt.mp e), fun e => h.2 (Int.ofNat_le.mp e)⟩
/-- what is thought, as far as the class has it -/
def THr (P : Int → Int) (N : Int) : Prop := (∀ q : Int, 0 ≤ q → q < 32 → 0 ≤ P q ∧ P q ≤ 1000000) ∧ sm P 32 = 1000000 ∧ ∀ q : Int, N ≤ q → q < 32 → P q = 0
theorem pair_sum {h : Int → Int} {b : Int} (b0 : 0 ≤ b) (b1 : b < 5) : sm h 32 = sm (fun s => if ia s (ishl 1 b) = 0 then h s + h (io s (ishl 1 b)) else 0) 32 := by
  obtain ⟨bf, rfl⟩ := fin5 b0 b1
  have e2 : sm (fun s => if decide (ia s (ishl 1 (bf.val : Int)) = 0) = true then h (io s (ishl 1 (bf.val : Int))) else 0) 32 = sm (fun s => if ia s (ishl 1 (bf.val : Int)) = 0 then 0 else h s) 32 := by
    rw [reidx (c := fun s => decide (ia s (ishl 1 (bf.val : Int)) = 0)) (φ := fun s => io s (ishl 1 (bf.val : Int))) (h := h) (fun s s0 s1 hc => by
      have d := dr3' b0 b1 s0 s1 (by simpa using hc)
      exact ⟨by omega, d.2⟩) 32 (Nat.le_refl _), sm_dot]
    refine sm_ext 32 fun s s0 s1 => ?_
    obtain ⟨sf, rfl⟩ := fin32 s0 s1
    have d := dr4 bf sf
    rw [d]
    split
    · rw [Int.zero_mul]
    · rw [Int.one_mul]
  have e3 : sm (fun s => if ia s (ishl 1 (bf.val : Int)) = 0 then h s + h (io s (ishl 1 (bf.val : Int))) else 0) 32 = sm (fun s => (if ia s (ishl 1 (bf.val : Int)) = 0 then h s else 0) + (if decide (ia s (ishl 1 (bf.val : Int)) = 0) = true then h (io s (ishl 1 (bf.val : Int))) else 0)) 32 := sm_ext 32 fun s _ _ => by
    by_cases g : ia s (ishl 1 (bf.val : Int)) = 0 <;> simp [g]
  rw [e3, sm_add, e2, ← sm_add]
  exact sm_ext 32 fun s _ _ => by
    by_cases g : ia s (ishl 1 (bf.val : Int)) = 0 <;> simp [g]
theorem sm_mul {w : Int → Int} {c : Int} : ∀ n : Nat, sm (fun s => c * w s) n = c * sm w n
  | 0 => by
    show (0 : Int) = c * 0
    rw [Int.mul_zero]
  | n + 1 => by
    show sm (fun s => c * w s) n + c * w n = c * (sm w n + w n)
    rw [sm_mul n, Int.mul_add]
theorem bf_sum {W : Int → Int} {g c b : Int} (b0 : 0 ≤ b) (b1 : b < 5) : sm (bf g c (ishl 1 b) W) 32 = 16 * sm W 32 := by
  rw [pair_sum b0 b1, pair_sum (h := W) b0 b1, ← sm_mul]
  refine sm_ext 32 fun s s0 s1 => ?_
  by_cases h : ia s (ishl 1 b) = 0
  · obtain ⟨p1, p2, p3, p4, p5⟩ := pf_1 b0 b1 s0 s1 h
    rw [if_pos h, if_pos h]
    unfold bf
    rw [if_pos h, if_neg p3, p2]
    rw [Int.mul_sub, Int.mul_sub, Int.mul_add]
    omega
  · rw [if_neg h, if_neg h]
    rfl
theorem bf_r {W : Int → Int} {g c b : Int} (b0 : 0 ≤ b) (b1 : b < 5) (g0 : 0 ≤ g ∧ g ≤ 16) (c0 : 0 ≤ c ∧ c ≤ 16) (hW : ∀ s : Int, 0 ≤ s → s < 32 → 0 ≤ W s) (s : Int) (s0 : 0 ≤ s) (s1 : s < 32) : 0 ≤ bf g c (ishl 1 b) W s := by
  unfold bf
  split
  · rename_i h
    obtain ⟨p1, p2, p3, p4, p5⟩ := pf_1 b0 b1 s0 s1 h
    exact Int.add_nonneg (Int.mul_nonneg (hW s s0 s1) (by omega)) (Int.mul_nonneg (hW _ (by omega) p5) (by omega))
  · have p := pf_2 b0 b1 s0 s1
    exact Int.add_nonneg (Int.mul_nonneg (hW _ p.1 (by omega)) (by omega)) (Int.mul_nonneg (hW s s0 s1) (by omega))
theorem bf_z {A W : Int → Int} {g c b : Int} (hA : 0 ≤ A 2 ∧ A 2 ≤ 5) (b0 : 0 ≤ b) (b1 : b < A 2) (hW : ∀ s : Int, NS A ≤ s → s < 32 → W s = 0) (s : Int) (s0 : NS A ≤ s) (s1 : s < 32) : bf g c (ishl 1 b) W s = 0 := by
  have hN := NS_r hA
  have p3 := (pf_3 hA b0 b1 (show 0 ≤ s by omega) s1).2 s0
  unfold bf
  split
  · rename_i h
    obtain ⟨p1, p2, p3, p4, p5⟩ := pf_1 b0 (by omega) (show 0 ≤ s by omega) s1 h
    rw [hW s s0 s1, hW _ (by omega) p5, Int.zero_mul, Int.zero_mul]
    rfl
  · have p := pf_2 b0 (by omega) (show 0 ≤ s by omega) s1
    rw [hW s s0 s1, hW _ p3 (by omega), Int.zero_mul, Int.zero_mul]
    rfl
theorem gx_r {A : Int → Int} (hB : BD A) {e m b : Int} (hm : 0 ≤ m) (b0 : 0 ≤ b) (b1 : b < 5) : 0 ≤ gx A e m b ∧ gx A e m b ≤ 16 := by
  have h := hB.2.2.2.2.2.2.2.2.2.2.2.2.2.2.2.1 (28 + 4 * b + 2) (by omega) (by omega)
  unfold gx
  split <;> omega
theorem PW_r {A P : Int → Int} {e m : Int} (hB : BD A) (hm : 0 ≤ m) (hP : THr P (NS A)) : ∀ n : Nat, (n : Int) ≤ A 2 → (∀ s : Int, 0 ≤ s → s < 32 → 0 ≤ PW A e m P n s) ∧ sm (PW A e m P n) 32 = 16 ^ n * 1000000 ∧ ∀ s : Int, NS A ≤ s → s < 32 → PW A e m P n s = 0
  | 0, _ => ⟨fun s a b => (hP.1 s a b).1, by rw [show PW A e m P 0 = P from rfl, hP.2.1]; rfl, hP.2.2⟩
  | n + 1, h => by
    have hA := hB.2.1
    obtain ⟨h1, h2, h3⟩ := PW_r hB hm hP (e := e) n (by omega)
    have hc := hB.2.2.2.2.2.2.2.2.2.2.2.2.2.2.2.1 (28 + 4 * (n : Int) + 3) (by omega) (by omega)
    refine ⟨fun s a b => ?_, ?_, fun s a b => ?_⟩
    · exact bf_r (by omega) (by omega) (gx_r hB hm (by omega) (by omega)) hc h1 s a b
    · show sm (bf _ _ _ (PW A e m P n)) 32 = _
      rw [bf_sum (by omega) (by omega), h2, ← Int.mul_assoc]
      congr 1
      rw [Int.pow_succ, Int.mul_comm]
    · exact bf_z hA (by omega) (by omega) h3 s a b
theorem PW_b {A P : Int → Int} {e m : Int} (hB : BD A) (hm : 0 ≤ m) (hP : THr P (NS A)) (n : Nat) (hn : (n : Int) ≤ A 2) : 0 < sm (PW A e m P n) 32 ∧ ∀ s : Int, 0 ≤ s → s < 32 → 0 ≤ PW A e m P n s ∧ PW A e m P n s ≤ 2000000000000 := by
  have hA := hB.2.1
  obtain ⟨h1, h2, h3⟩ := PW_r hB hm hP (e := e) n hn
  have hp : (0 : Int) < 16 ^ n * 1000000 ∧ (16 : Int) ^ n * 1000000 ≤ 2000000000000 := by
    rcases show n = 0 ∨ n = 1 ∨ n = 2 ∨ n = 3 ∨ n = 4 ∨ n = 5 by omega with rfl | rfl | rfl | rfl | rfl | rfl <;> decide
  refine ⟨by omega, fun s s0 s1 => ⟨h1 s s0 s1, ?_⟩⟩
  have h4 := sm_le (v := PW A e m P n) 32 (fun q hq => h1 q (by omega) (by omega)) s.toNat (by omega)
  rw [Int.toNat_of_nonneg s0] at h4
  omega
/-- a bar's turn, in the class: the pairs below q are done -/
theorem pass_71 {X0 : Mem} {A W : Int → Int} {r p e m b g c : Int} (hA : 0 ≤ A 2 ∧ A 2 ≤ 5) (b0 : 0 ≤ b) (b1 : b < A 2) (g0 : 0 ≤ g ∧ g ≤ 16) (c0 : 0 ≤ c ∧ c ≤ 16) (hz : ∀ s : Int, NS A ≤ s → s < 32 → W s = 0) (go : Int → Int → Int → Int → Int → Int → Mem → Option (Int × Mem)) : ∀ (k : Nat) (q : Int) (U : Int → Int), 0 ≤ q → q ≤ NS A → (NS A - q).toNat < k → (∀ s : Int, 0 ≤ s → s < 32 → U s = if ia s (ix (ishl 1 b) (-1)) < q then bf g c (ishl 1 b) W s else W s) →
    ∃ U' : Int → Int, L_X9_passDay_71 go k r p e m (NS A) b g c (ishl 1 b) q (ma X0 41 U) = B_X9_passDay_162 go r p e m (NS A) b (ma X0 41 U') ∧ (∀ s : Int, 0 ≤ s → s < 32 → U' s = bf g c (ishl 1 b) W s) ∧ ∀ s : Int, s < 0 ∨ 32 ≤ s → U' s = U s := by
  have hN := NS_r hA
  have b5 : b < 5 := by omega
  intro k
  induction k with
  | zero => intro q U _ _ h; omega
  | succ k ih =>
    intro q U q0 q1 hk hU
    rw [L_X9_passDay_71, c2_ok (by omega) (by omega) (by omega) (by omega)]
    by_cases gq : NS A ≤ q
    · rw [if_pos gq]
      refine ⟨U, rfl, fun s s0 s1 => ?_, fun s _ => rfl⟩
      rw [hU s s0 s1]
      split
      · rfl
      · rename_i hl
        have p2 := pf_2 b0 b5 s0 s1
        rw [hz s (by omega) s1, bf_z hA b0 b1 hz s (by omega) s1]
    · have hi := ia_I q (ishl 1 b)
      rw [if_neg gq, c1_okk hi.1 hi.2]
      by_cases gb : ia q (ishl 1 b) = 0
      · obtain ⟨p1, p2, p3, p4, p5⟩ := pf_1 b0 b5 q0 (by omega) gb
        have u1 : U q = W q := by
          rw [hU q q0 (by omega), p1, if_neg (by omega)]
        have u2 : U (io q (ishl 1 b)) = W (io q (ishl 1 b)) := by
          rw [hU _ (by omega) p5, p2, if_neg (by omega)]
        rw [if_neg (by simpa using gb), ax_ok q0 (by omega), bd_eq, ax_ok (by omega) p5, bd_eq, c1_okk (by omega) (by omega), c1_okk (by omega) (by omega), ax_ok q0 (by omega), bd_eq, c1_okk (by omega) (by omega), c1_okk (by omega) (by omega), ax_ok (by omega) p5, bd_eq, ma_same, u1, u2, ms_row, ms_row, B_X9_passDay_156]
        obtain ⟨U', i1, i2, i3⟩ := ih (q + 1) (up (up U q (W q * (16 - c) + W (io q (ishl 1 b)) * g)) (io q (ishl 1 b)) (W q * c + W (io q (ishl 1 b)) * (16 - g))) (by omega) (by omega) (by omega) (fun s s0 s1 => by
          have k := pf_2 b0 b5 s0 s1
          rw [up_at, up_at]
          by_cases e1 : s = io q (ishl 1 b)
          · rw [if_pos e1, e1, p2, if_pos (by omega)]
            unfold bf
            rw [if_neg p3, p2]
          · rw [if_neg e1]
            by_cases e2 : s = q
            · rw [if_pos e2, e2, p1, if_pos (by omega)]
              unfold bf
              rw [if_pos gb]
            · rw [if_neg e2, hU s s0 s1]
              have hne : ia s (ix (ishl 1 b) (-1)) ≠ q := fun e => by
                rcases k.2.2.2.1 with h | h
                · exact e2 (by rw [h, e])
                · exact e1 (by rw [h, e])
              by_cases e3 : ia s (ix (ishl 1 b) (-1)) < q
              · rw [if_pos e3, if_pos (by omega)]
              · rw [if_neg e3, if_neg (by omega)])
        exact ⟨U', i1, i2, fun s hs => by rw [i3 s hs, up_ne (by omega), up_ne (by omega)]⟩
      · rw [if_pos gb, B_X9_passDay_156]
        refine ih (q + 1) U (by omega) (by omega) (by omega) (fun s s0 s1 => ?_)
        have k := pf_2 b0 b5 s0 s1
        have hne : ia s (ix (ishl 1 b) (-1)) ≠ q := fun e => gb (by rw [← e]; exact k.2.2.1)
        rw [hU s s0 s1]
        by_cases e3 : ia s (ix (ishl 1 b) (-1)) < q
        · rw [if_pos e3, if_pos (by omega)]
        · rw [if_neg e3, if_neg (by omega)]
theorem bf_ext {A W V : Int → Int} {g c b s : Int} (hA : 0 ≤ A 2 ∧ A 2 ≤ 5) (b0 : 0 ≤ b) (b1 : b < A 2) (h : ∀ s : Int, 0 ≤ s → s < NS A → V s = W s) (s0 : 0 ≤ s) (s1 : s < NS A) : bf g c (ishl 1 b) V s = bf g c (ishl 1 b) W s := by
  have hN := NS_r hA
  have k := pf_2 b0 (by omega) s0 (by omega)
  have k3 := (pf_3 hA b0 b1 s0 (by omega)).1 s1
  unfold bf
  split
  · rename_i hb
    have p := pf_1 b0 (by omega) s0 (by omega) hb
    rw [h s s0 s1, h _ (by omega) k3]
  · rw [h s s0 s1, h _ k.1 (by omega)]
theorem bf_ext32 {W V : Int → Int} {g c b s : Int} (b0 : 0 ≤ b) (b1 : b < 5) (h : ∀ s : Int, 0 ≤ s → s < 32 → V s = W s) (s0 : 0 ≤ s) (s1 : s < 32) : bf g c (ishl 1 b) V s = bf g c (ishl 1 b) W s := by
  have k := pf_2 b0 b1 s0 s1
  unfold bf
  split
  · rename_i hb
    have p := pf_1 b0 b1 s0 s1 hb
    rw [h s s0 s1, h _ (by omega) p.2.2.2.2]
  · rw [h s s0 s1, h _ k.1 (by omega)]
theorem pass_17 {X0 : Mem} {A P : Int → Int} {r p e m : Int} (hB : BD A) (hr : r ∈ RIV) (hR : RV X0 r A) (hm : 0 ≤ m ∧ m ≤ 16) (he : inI e) (hP : THr P (NS A)) : ∀ (k n : Nat) (U : Int → Int), (n : Int) ≤ A 2 → (A 2 - n).toNat < k → (∀ s : Int, 0 ≤ s → s < 32 → U s = PW A e m P n s) →
    ∃ U' : Int → Int, L_X9_passDay_17 k r p e m (NS A) n (ma X0 41 U) = B_X9_passDay_168 p (ma X0 41 U') ∧ (∀ s : Int, 0 ≤ s → s < 32 → U' s = PW A e m P (A 2).toNat s) ∧ ∀ s : Int, s < 0 ∨ 32 ≤ s → U' s = U s := by
  have hA := hB.2.1
  have hrr := RIV_r hr
  have hbj := hB.2.2.2.2.2.2.2.2.2.2.2.2.2.2.2.1
  have eR : ∀ (U : Int → Int) (i : Int), i ≠ 41 → ma X0 41 U i = X0 i := fun U i hi => ma_ne hi
  intro k
  induction k with
  | zero => intro n U _ h; omega
  | succ k ih =>
    intro n U hn hk hU
    rw [L_X9_passDay_17, eR U r (by omega), hR.1.2.2.1, c2_ok (by omega) (by omega) (by omega) (by omega)]
    by_cases g : A 2 ≤ n
    · rw [if_pos g]
      refine ⟨U, rfl, fun s s0 s1 => ?_, fun s _ => rfl⟩
      rw [hU s s0 s1, show (A 2).toNat = n by omega]
    · have hv := hR.2.2.2.2.1 n (by omega) (by omega)
      have hg := hbj (28 + 4 * (n : Int) + 2) (by omega) (by omega)
      have hc := hbj (28 + 4 * (n : Int) + 3) (by omega) (by omega)
      have hgx := gx_r hB hm.1 (e := e) (b := (n : Int)) (by omega) (by omega)
      obtain ⟨-, w2, w3⟩ := PW_r hB hm.1 hP (e := e) n (by omega)
      obtain ⟨U1, u1, u2, u3⟩ := pass_71 (X0 := X0) (A := A) (W := PW A e m P n) (r := r) (p := p) (e := e) (m := m) (b := (n : Int)) (g := gx A e m n) (c := A (28 + 4 * (n : Int) + 3)) hA (by omega) (by omega) hgx hc w3 (fun x1 x2 x3 x4 x5 x6 X => L_X9_passDay_17 k x1 x2 x3 x4 x5 x6 X) KF 0 U (by decide) (by have := NS_r hA; omega) (by have := NS_r hA; rw [KF_eq]; omega) (fun s s0 s1 => by
        have q := pf_2 (show 0 ≤ (n : Int) by omega) (by omega) s0 s1
        rw [if_neg (by omega)]
        exact hU s s0 s1)
      obtain ⟨U', i1, i2, i3⟩ := ih (n + 1) U1 (by omega) (by omega) u2
      refine ⟨U', ?_, i2, fun s hs => by rw [i3 s hs, u3 s hs]⟩
      have e53 : B_X9_passDay_53 (fun x1 x2 x3 x4 x5 x6 X => L_X9_passDay_17 k x1 x2 x3 x4 x5 x6 X) r p e m (NS A) n (gx A e m n) (ma X0 41 U) = B_X9_passDay_168 p (ma X0 41 U') := by
        rw [B_X9_passDay_53, ax_ok (by omega) (by omega), bd_eq, eR U (r + 8) (by omega), hv.2.2.2, bd_eq, u1, B_X9_passDay_162]
        exact i1
      rw [if_neg g, ax_ok (by omega) (by omega), bd_eq, eR U (r + 7) (by omega), hv.2.2.1, c2_ok (by omega) (by omega) he.1 he.2]
      by_cases ge : (n : Int) = e
      · rw [if_neg (by simpa using ge), c2_ok (by decide) (by decide) (by omega) (by omega), bd_eq]
        unfold gx at e53
        rw [if_pos ge] at e53
        exact e53
      · rw [if_pos ge]
        unfold gx at e53
        rw [if_neg ge] at e53
        exact e53
/-- a day of the class -/
theorem day_c {X : Mem} {A P : Int → Int} {r p e m : Int} (hB : BD A) (hr : r ∈ RIV) (hR : RV X r A) (hp : p ≠ 41) (hXp : X p = P) (hP : THr P (NS A)) (hz : ∀ q : Int, q < 0 ∨ 32 ≤ q → X 41 q = 0) (hm : 0 ≤ m ∧ m ≤ 16) (he : inI e) :
    ∃ W : Int → Int, f_X9_passDay r p e m X = some (0, ma (ma X 41 W) p (shF W P)) ∧ (∀ s : Int, 0 ≤ s → s < 32 → W s = PW A e m P (A 2).toNat s) ∧ ∀ s : Int, s < 0 ∨ 32 ≤ s → W s = 0 := by
  have hrr := RIV_r hr
  have hA := hB.2.1
  have hb := PW_b hB hm.1 hP (e := e) (A 2).toNat (by omega)
  have e1 : f_X11_copyParts p 41 X = some (0, ma X 41 (fun q => if 0 ≤ q ∧ q < 0 + 32 then X p (0 + (q - 0)) else X 41 q)) := by
    unfold f_X11_copyParts
    rw [cpk_ok (by decide) (by decide) (by decide) (by decide) (by decide), bd_eq]
    rfl
  obtain ⟨W, w1, w2, w3⟩ := pass_17 (X0 := X) (A := A) (P := P) (r := r) (p := p) (e := e) (m := m) hB hr hR hm he hP KF 0 (fun q => if 0 ≤ q ∧ q < 0 + 32 then X p (0 + (q - 0)) else X 41 q) (by omega) (by rw [KF_eq]; omega) (fun s s0 s1 => by
    show (if 0 ≤ s ∧ s < 0 + 32 then X p (0 + (s - 0)) else X 41 s) = P s
    rw [if_pos ⟨s0, by omega⟩, hXp]
    congr 1
    omega)
  refine ⟨W, ?_, w2, fun s hs => ?_⟩
  · unfold f_X9_passDay f_X2_setCount
    have w1 : L_X9_passDay_17 KF r p e m (NS A) 0 (ma X 41 (fun q => if 0 ≤ q ∧ q < 0 + 32 then X p (0 + (q - 0)) else X 41 q)) = B_X9_passDay_168 p (ma X 41 W) := w1
    rw [e1, cl_some, cl_some, ma_ne (by omega), hR.1.2.2.1, show ishl 1 (A 2) = NS A from rfl, w1, B_X9_passDay_168, share_eq hp (by rw [ma_same]; exact fun q q0 q1 => by rw [w2 q q0 q1]; exact hb.2 q q0 q1), ma_same, ma_ne hp, hXp, if_pos (by rw [sm_ext 32 w2]; exact hb.1), cl_some]
  · rw [w3 s hs]
    show (if 0 ≤ s ∧ s < 0 + 32 then X p (0 + (s - 0)) else X 41 s) = 0
    rw [if_neg (by omega)]
    exact hz s hs
/-! the reference's day -/
theorem ms_131 {Z : Mem} {U V : Int → Int} {s v : Int} : ms (ma (ma Z 131 U) 130 V) 131 s v = ma (ma Z 131 (up U s v)) 130 V := by
  rw [ms_ma, ma_ne (by decide), ma_same, ma_comm (by decide), ma_ma]
theorem passm_85 {Z : Mem} {A W V : Int → Int} {e m b g c : Int} (hA : 0 ≤ A 2 ∧ A 2 ≤ 5) (hZ : Z 121 = A) (b0 : 0 ≤ b) (b1 : b < A 2) (g0 : 0 ≤ g ∧ g ≤ 16) (c0 : 0 ≤ c ∧ c ≤ 16) (hV : ∀ s : Int, 0 ≤ s → s < NS A → V s = W s) (go : Int → Int → Int → Mem → Option (Int × Mem)) : ∀ (k : Nat) (q : Int) (U : Int → Int), 0 ≤ q → q ≤ NS A → (NS A - q).toNat < k → (∀ s : Int, 0 ≤ s → s < q → U s = bf g c (ishl 1 b) W s) →
    ∃ U' : Int → Int, L_X12_passDay_85 go k e m b g c q (ma (ma Z 131 U) 130 V) = B_X12_passDay_187 go e m b (ma (ma Z 131 U') 130 V) ∧ (∀ s : Int, 0 ≤ s → s < NS A → U' s = bf g c (ishl 1 b) W s) := by
  have hN := NS_r hA
  have b5 : b < 5 := by omega
  intro k
  induction k with
  | zero => intro q U _ _ h; omega
  | succ k ih =>
    intro q U q0 q1 hk hU
    have e2 : f_X12_sets (ma (ma Z 131 U) 130 V) = some (NS A, ma (ma Z 131 U) 130 V) := by
      rw [sets_eq, ma_ne (by decide), ma_ne (by decide), hZ]
      rfl
    rw [L_X12_passDay_85, e2, cl_some, c2_ok (by omega) (by omega) (by omega) (by omega)]
    by_cases gq : NS A ≤ q
    · rw [if_pos gq]
      exact ⟨U, rfl, fun s s0 s1 => hU s s0 (by omega)⟩
    · have k2 := pf_2 b0 b5 q0 (by omega)
      have k3 := (pf_3 hA b0 b1 q0 (by omega)).1 (by omega)
      have hio : inI (io q (ishl 1 b)) := ⟨Int32.le_toInt _, Int32.toInt_le _⟩
      have hup : ∀ v : Int, v = bf g c (ishl 1 b) W q → ∃ U' : Int → Int, L_X12_passDay_85 go k e m b g c (q + 1) (ma (ma Z 131 (up U q v)) 130 V) = B_X12_passDay_187 go e m b (ma (ma Z 131 U') 130 V) ∧ (∀ s : Int, 0 ≤ s → s < NS A → U' s = bf g c (ishl 1 b) W s) := fun v hv => ih (q + 1) _ (by omega) (by omega) (by omega) (fun s s0 s1 => by
        rw [up_at]
        by_cases e : s = q
        · rw [if_pos e, hv, e]
        · rw [if_neg e]
          exact hU s s0 (by omega))
      rw [if_neg gq, bd_eq, bd_eq, c2_ok (by omega) (by omega) hio.1 hio.2, ma_same]
      by_cases gb : ia q (ishl 1 b) = 0
      · have p := pf_1 b0 b5 q0 (by omega) gb
        rw [if_pos (by omega), ax_ok (by omega) (by omega), c1_okk (by omega) (by omega), ax_ok (by omega) (by omega), c1_okk (by omega) (by omega), B_X12_passDay_180, ax_ok q0 (by omega), bd_eq, ms_131]
        refine hup _ ?_
        unfold bf
        rw [if_pos gb, p.1, hV _ (by omega) k3, hV q q0 (by omega)]
        omega
      · have eq : q = io q (ishl 1 b) := k2.2.2.2.2.mpr gb
        rw [if_neg (by rw [← eq]; simp), ← eq, ax_ok (by omega) (by omega), c1_okk (by omega) (by omega), ax_ok (by omega) (by omega), c1_okk (by omega) (by omega), B_X12_passDay_180, ax_ok q0 (by omega), bd_eq, ms_131]
        refine hup _ ?_
        unfold bf
        rw [if_neg gb, hV _ k2.1 (by omega), hV q q0 (by omega)]
        omega
theorem passm_190 {Z : Mem} {A U : Int → Int} {e m b : Int} (hA : 0 ≤ A 2 ∧ A 2 ≤ 5) (hZ : Z 121 = A) (go : Int → Int → Int → Mem → Option (Int × Mem)) : ∀ (k : Nat) (q : Int) (V : Int → Int), 0 ≤ q → q ≤ NS A → (NS A - q).toNat < k → (∀ s : Int, 0 ≤ s → s < q → V s = U s) →
    ∃ V' : Int → Int, L_X12_passDay_190 go k e m b q (ma (ma Z 131 U) 130 V) = B_X12_passDay_219 go e m b (ma (ma Z 131 U) 130 V') ∧ (∀ s : Int, 0 ≤ s → s < NS A → V' s = U s) ∧ ∀ s : Int, s < 0 ∨ NS A ≤ s → V' s = V s := by
  have hN := NS_r hA
  intro k
  induction k with
  | zero => intro q V _ _ h; omega
  | succ k ih =>
    intro q V q0 q1 hk hV
    have e2 : f_X12_sets (ma (ma Z 131 U) 130 V) = some (NS A, ma (ma Z 131 U) 130 V) := by
      rw [sets_eq, ma_ne (by decide), ma_ne (by decide), hZ]
      rfl
    rw [L_X12_passDay_190, e2, cl_some, c2_ok (by omega) (by omega) (by omega) (by omega)]
    by_cases gq : NS A ≤ q
    · rw [if_pos gq]
      exact ⟨V, rfl, fun s s0 s1 => hV s s0 (by omega), fun s _ => rfl⟩
    · rw [if_neg gq, ax_ok q0 (by omega), ax_ok q0 (by omega), bd_eq, ma_ne (i := 130) (j := 131) (by decide), ma_same, ms_row]
      obtain ⟨V', i1, i2, i3⟩ := ih (q + 1) (up V q (U q)) (by omega) (by omega) (by omega) (fun s s0 s1 => by
        rw [up_at]
        by_cases e : s = q
        · rw [if_pos e, e]
        · rw [if_neg e]
          exact hV s s0 (by omega))
      exact ⟨V', i1, i2, fun s hs => by rw [i3 s hs, up_ne (by omega)]⟩
theorem passm_35 {Z : Mem} {A P : Int → Int} {e m : Int} (hB : BD A) (hZ : Z 121 = A) (hm : 0 ≤ m ∧ m ≤ 16) (he : inI e) : ∀ (k n : Nat) (U V : Int → Int), (n : Int) ≤ A 2 → (A 2 - n).toNat < k → (∀ s : Int, 0 ≤ s → s < NS A → V s = PW A e m P n s) →
    ∃ U' V' : Int → Int, L_X12_passDay_35 k e m n (ma (ma Z 131 U) 130 V) = B_X12_passDay_225 (ma (ma Z 131 U') 130 V') ∧ (∀ s : Int, 0 ≤ s → s < NS A → V' s = PW A e m P (A 2).toNat s) ∧ ∀ s : Int, s < 0 ∨ NS A ≤ s → V' s = V s := by
  have hA := hB.2.1
  have hN := NS_r hA
  have hbj := hB.2.2.2.2.2.2.2.2.2.2.2.2.2.2.2.1
  have eR : ∀ U V : Int → Int, ma (ma Z 131 U) 130 V 121 = A := fun U V => by rw [ma_ne (by decide), ma_ne (by decide)]; exact hZ
  intro k
  induction k with
  | zero => intro n U V _ h; omega
  | succ k ih =>
    intro n U V hn hk hV
    rw [L_X12_passDay_35, ax_ok (n := 2200) (by decide) (by decide), eR, c2_ok (by omega) (by omega) (by omega) (by omega)]
    by_cases g : A 2 ≤ n
    · rw [if_pos g]
      refine ⟨U, V, rfl, fun s s0 s1 => ?_, fun s _ => rfl⟩
      rw [hV s s0 s1, show (A 2).toNat = n by omega]
    · have hg := hbj (28 + 4 * (n : Int) + 2) (by omega) (by omega)
      have hc := hbj (28 + 4 * (n : Int) + 3) (by omega) (by omega)
      have hgx := gx_r hB hm.1 (e := e) (b := (n : Int)) (by omega) (by omega)
      obtain ⟨U1, u1, u2⟩ := passm_85 (Z := Z) (A := A) (W := PW A e m P n) (V := V) (e := e) (m := m) (b := (n : Int)) (g := gx A e m n) (c := A (28 + 4 * (n : Int) + 3)) hA hZ (by omega) (by omega) hgx hc hV (fun x1 x2 x3 X => L_X12_passDay_35 k x1 x2 x3 X) KF 0 U (by decide) (by omega) (by rw [KF_eq]; omega) (fun s _ _ => by omega)
      obtain ⟨V1, v1, v2, v3⟩ := passm_190 (Z := Z) (A := A) (U := U1) (e := e) (m := m) (b := (n : Int)) hA hZ (fun x1 x2 x3 X => L_X12_passDay_35 k x1 x2 x3 X) KF 0 V (by decide) (by omega) (by rw [KF_eq]; omega) (fun s _ _ => by omega)
      obtain ⟨U', V', i1, i2, i3⟩ := ih (n + 1) U1 V1 (by omega) (by omega) (fun s s0 s1 => by rw [v2 s s0 s1, u2 s s0 s1]; rfl)
      refine ⟨U', V', ?_, i2, fun s hs => by rw [i3 s hs, v3 s hs]⟩
      have e72 : B_X12_passDay_72 (fun x1 x2 x3 X => L_X12_passDay_35 k x1 x2 x3 X) e m n (gx A e m n) (ma (ma Z 131 U) 130 V) = B_X12_passDay_225 (ma (ma Z 131 U') 130 V') := by
        rw [B_X12_passDay_72, ofBar_eq (by omega) (by omega) (by decide) (by decide), cl_some, eR, u1, B_X12_passDay_187, v1, B_X12_passDay_219]
        exact i1
      rw [if_neg g, c2_ok (by omega) (by omega) he.1 he.2]
      by_cases ge : (n : Int) = e
      · rw [if_neg (by simpa using ge), ofBar_eq (by omega) (by omega) (by decide) (by decide), cl_some, eR, c2_ok (by decide) (by decide) (by omega) (by omega)]
        unfold gx at e72
        rw [if_pos ge] at e72
        exact e72
      · rw [if_pos ge, ofBar_eq (by omega) (by omega) (by decide) (by decide), cl_some, eR]
        unfold gx at e72
        rw [if_neg ge] at e72
        exact e72
theorem passm_2 {Z : Mem} {A P : Int → Int} {e m : Int} (hB : BD A) (hZ : Z 121 = A) (hT : TH P A) : ∀ (k : Nat) (q : Int) (V : Int → Int), 0 ≤ q → q ≤ NS A → (NS A - q).toNat < k → (∀ s : Int, 0 ≤ s → s < q → V s = P s) →
    ∃ V' : Int → Int, L_X12_passDay_2 k e m q (ma Z 130 V) = B_X12_passDay_33 e m (ma Z 130 V') ∧ (∀ s : Int, 0 ≤ s → s < NS A → V' s = P s) ∧ ∀ s : Int, s < 0 ∨ NS A ≤ s → V' s = V s := by
  have hA := hB.2.1
  have hN := NS_r hA
  intro k
  induction k with
  | zero => intro q V _ _ h; omega
  | succ k ih =>
    intro q V q0 q1 hk hV
    have e121 : (ma Z 130 V) 121 = A := by rw [ma_ne (by decide)]; exact hZ
    have e2 : f_X12_sets (ma Z 130 V) = some (NS A, ma Z 130 V) := by
      rw [sets_eq, e121]
      rfl
    rw [L_X12_passDay_2, e2, cl_some, c2_ok (by omega) (by omega) (by omega) (by omega)]
    by_cases gq : NS A ≤ q
    · rw [if_pos gq]
      exact ⟨V, rfl, fun s s0 s1 => hV s s0 (by omega), fun s _ => rfl⟩
    · have hp := hT.1 q q0 (by omega)
      rw [if_neg gq, ax_ok (n := 2200) (by omega) (by omega), e121, hT.2.2.2 q q0 (by omega), c1_okk (by omega) (by omega), ax_ok q0 (by omega), bd_eq, ms_row]
      obtain ⟨V', i1, i2, i3⟩ := ih (q + 1) (up V q (P q)) (by omega) (by omega) (by omega) (fun s s0 s1 => by
        rw [up_at]
        by_cases e : s = q
        · rw [if_pos e, e]
        · rw [if_neg e]
          exact hV s s0 (by omega))
      exact ⟨V', i1, i2, fun s hs => by rw [i3 s hs, up_ne (by omega)]⟩
theorem PW_ext {A B P : Int → Int} {e m : Int} (h : EQV A B) : ∀ n : Nat, n ≤ 5 → PW B e m P n = PW A e m P n
  | 0, _ => rfl
  | n + 1, hn => by
    show bf (gx B e m n) (B (28 + 4 * (n : Int) + 3)) (ishl 1 (n : Int)) (PW B e m P n) = bf (gx A e m n) (A (28 + 4 * (n : Int) + 3)) (ishl 1 (n : Int)) (PW A e m P n)
    rw [PW_ext h n (by omega), h (28 + 4 * (n : Int) + 3) (by omega)]
    unfold gx
    rw [h (28 + 4 * (n : Int) + 2) (by omega)]
theorem TH.r {P A : Int → Int} (h : TH P A) : THr P (NS A) := ⟨h.1, h.2.1, h.2.2.1⟩
/-- a day on both sides -/
theorem day_both {X : Mem} {A P : Int → Int} {r p e m : Int} (hB : BD A) (hr : r ∈ RIV) (hR : RV X r A) (hp : p ≠ 41) (hXp : X p = P) (hP : THr P (NS A)) (hz : ∀ q : Int, q < 0 ∨ 32 ≤ q → X 41 q = 0) (hm : 0 ≤ m ∧ m ≤ 16) (he : inI e) :
    ∃ W P' : Int → Int, f_X9_passDay r p e m X = some (0, ma (ma X 41 W) p P') ∧ (∀ s : Int, s < 0 ∨ 32 ≤ s → W s = 0) ∧ THr P' (NS A) ∧
      ∀ (Z : Mem) (B : Int → Int), Z 121 = B → EQV A B → BD B → TH P B → (∀ q : Int, 0 ≤ q → q < 32 → 0 ≤ Z 130 q ∧ Z 130 q ≤ 2000000000000) → ∃ U V B' : Int → Int, f_X12_passDay e m Z = some (0, ma (ma (ma Z 131 U) 130 V) 121 B') ∧ TH P' B' ∧ (∀ k : Int, k ≠ 3 → k < 168 ∨ 200 ≤ k → B' k = B k) ∧ B' 3 = B 3 + 1 ∧ ∀ q : Int, 0 ≤ q → q < 32 → 0 ≤ V q ∧ V q ≤ 2000000000000 := by
  have hA := hB.2.1
  have hN := NS_r hA
  obtain ⟨W, w1, w2, w3⟩ := day_c hB hr hR hp hXp hP hz hm he
  have hb := PW_b hB hm.1 hP (e := e) (A 2).toNat (by omega)
  have hr3 := (PW_r hB hm.1 hP (e := e) (A 2).toNat (by omega)).2.2
  have hWb : ∀ q : Int, 0 ≤ q → q < 32 → 0 ≤ W q ∧ W q ≤ 2000000000000 := fun q q0 q1 => by rw [w2 q q0 q1]; exact hb.2 q q0 q1
  have hWz : ∀ q : Int, ((NS A).toNat : Int) ≤ q → q < 32 → W q = 0 := fun q q0 q1 => by rw [w2 q (by omega) q1]; exact hr3 q (by omega) q1
  have hWs : 0 < sm W 32 := by rw [sm_ext 32 w2]; exact hb.1
  obtain ⟨k1, k2, k3, -⟩ := (share_th (P0 := P) (A' := A) (V := W) (N := (NS A).toNat) (by omega) (by omega) hWb w3 hWz (fun q _ _ => rfl)).2 hWs
  refine ⟨W, shF W P, w1, w3, ⟨k1, k2, fun q q0 q1 => k3 q (by omega) q1⟩, fun Z B hZ hE hBB hT h130 => ?_⟩
  have eN : NS B = NS A := NS.tx hE
  have e2 : B 2 = A 2 := hE 2 (by decide)
  obtain ⟨V0, v1, v2, v3⟩ := passm_2 (e := e) (m := m) hBB hZ hT KF 0 (Z 130) (by decide) (by omega) (by rw [KF_eq]; omega) (fun s _ _ => by omega)
  rw [ma_self] at v1
  obtain ⟨U, V, i1, i2, i3⟩ := passm_35 (Z := Z) (A := B) (P := P) (e := e) (m := m) hBB hZ hm he KF 0 (Z 131) V0 (by omega) (by rw [KF_eq]; omega) v2
  rw [ma_self] at i1
  have i1 : L_X12_passDay_35 KF e m 0 (ma Z 130 V0) = B_X12_passDay_225 (ma (ma Z 131 U) 130 V) := i1
  have hV : ∀ q : Int, 0 ≤ q → q < NS A → V q = W q := fun q q0 q1 => by
    rw [i2 q q0 (by omega), PW_ext hE _ (by omega), w2 q q0 (by omega), e2]
  have hVb : ∀ q : Int, 0 ≤ q → q < 32 → 0 ≤ V q ∧ V q ≤ 2000000000000 := fun q q0 q1 => by
    by_cases g : q < NS A
    · rw [hV q q0 g]
      exact hWb q q0 q1
    · rw [i3 q (by omega), v3 q (by omega)]
      exact h130 q q0 q1
  obtain ⟨s1, s2⟩ := share_th (P0 := P) (A' := B) (V := V) (N := (NS A).toNat) (by omega) (by omega) hWb w3 hWz (fun q q0 q1 => hV q q0 (by omega))
  obtain ⟨-, -, -, k4⟩ := s2 hWs
  have e121 : ma (ma Z 131 U) 130 V 121 = B := by rw [ma_ne (by decide), ma_ne (by decide)]; exact hZ
  have hs := sharem_eq (N := (NS A).toNat) (by omega) (by omega) (X := ma (ma Z 131 U) 130 V) (by rw [e121, show ishl 1 (B 2) = NS B from rfl, eN]; omega) (by rw [ma_same]; exact hVb)
  rw [ma_same, if_pos (by omega), e121] at hs
  have out : ∀ q : Int, q < 168 ∨ 200 ≤ q → shM (NS A).toNat V B q = B q := fun q hq => shM_out (by omega)
  refine ⟨U, V, up (shM (NS A).toNat V B) 3 (B 3 + 1), ?_, ⟨k1, k2, fun q q0 q1 => ?_, fun q q0 q1 => ?_⟩, fun k hk1 hk2 => ?_, up_same, hVb⟩
  · unfold f_X12_passDay
    rw [v1, B_X12_passDay_33, i1, B_X12_passDay_225, hs, cl_some, c1_okk (by decide) (by decide), if_neg (by decide), ax_ok (n := 2200) (by decide) (by decide), ax_ok (n := 2200) (by decide) (by decide), bd_eq, ms_row, ma_same, out 3 (by decide)]
  · have eq : NS (up (shM (NS A).toNat V B) 3 (B 3 + 1)) = NS A := by
      show ishl 1 (up (shM (NS A).toNat V B) 3 (B 3 + 1) 2) = _
      rw [up_ne (by decide), out 2 (by decide)]
      exact eN
    rw [eq] at q0
    exact k3 q (by omega) q1
  · have eq : NS (up (shM (NS A).toNat V B) 3 (B 3 + 1)) = NS A := by
      show ishl 1 (up (shM (NS A).toNat V B) 3 (B 3 + 1) 2) = _
      rw [up_ne (by decide), out 2 (by decide)]
      exact eN
    rw [eq] at q1
    rw [up_ne (by omega)]
    exact k4 q q0 (by omega)
  · rw [up_ne hk1, out k hk2]
theorem RIV_c {r : Int} (h : r ∈ RIV) : r = 3 ∨ r = 20 ∨ r = 70 ∨ r = 87 ∨ r = 104 := by
  simpa [RIV] using h
theorem days_39 {X0 : Mem} {A : Int → Int} {n : Int} (hB : BD A) (hr : X0 2 0 ∈ RIV) (hR : RV X0 (X0 2 0) A) (hn : 0 ≤ n ∧ n ≤ 9) : ∀ (k : Nat) (i : Int) (X : Mem) (P : Int → Int), 0 ≤ i → i ≤ n → (n - i).toNat < k → (∀ j : Int, j ≠ 41 → j ≠ 18 → X j = X0 j) → X 18 = P → THr P (NS A) → (∀ q : Int, q < 0 ∨ 32 ≤ q → X 41 q = 0) →
    ∃ (Y : Mem) (P' : Int → Int), L_X11_pass_39 k n i X = B_X11_pass_73 n Y ∧ (∀ j : Int, j ≠ 41 → j ≠ 18 → Y j = X0 j) ∧ Y 18 = P' ∧ (∀ q : Int, q < 0 ∨ 32 ≤ q → Y 41 q = 0) ∧
      ∀ (Z : Mem) (B : Int → Int), Z 121 = B → EQV A B → BD B → B 3 + (n - i) ≤ 99 → TH P B → (∀ q : Int, 0 ≤ q → q < 32 → 0 ≤ Z 130 q ∧ Z 130 q ≤ 2000000000000) → ∃ (Z' : Mem) (B' : Int → Int), L_X12_pass_39 k n i Z = B_X12_pass_56 Z' ∧ Z' 121 = B' ∧ (∀ j : Int, j ≠ 121 → j ≠ 130 → j ≠ 131 → Z' j = Z j) ∧ TH P' B' ∧ (∀ k : Int, k ≠ 3 → k < 168 ∨ 200 ≤ k → B' k = B k) ∧ B' 3 = B 3 + (n - i) ∧ ∀ q : Int, 0 ≤ q → q < 32 → 0 ≤ Z' 130 q ∧ Z' 130 q ≤ 2000000000000 := by
  have hrr := RIV_r hr
  intro k
  induction k with
  | zero => intro i X P _ _ h; omega
  | succ k ih =>
    intro i X P i0 i1 hk hX h18 hP hz
    rw [L_X11_pass_39, c2_ok (by omega) (by omega) (by omega) (by omega)]
    by_cases g : n ≤ i
    · rw [if_pos g]
      refine ⟨X, P, rfl, hX, h18, hz, fun Z B hZ hE hBB h3 hT h130 => ⟨Z, B, ?_, hZ, fun _ _ _ _ => rfl, hT, fun _ _ _ => rfl, by omega, h130⟩⟩
      rw [L_X12_pass_39, c2_ok (by omega) (by omega) (by omega) (by omega), if_pos g]
    · have e2 : X 2 = X0 2 := hX 2 (by decide) (by decide)
      have hrc := RIV_c hr
      have hRX : RV X (X0 2 0) A := hR.fr fun j j0 j1 => hX j (by omega) (by omega)
      obtain ⟨W, P1, d1, d2, d3, d4⟩ := day_both (X := X) (P := P) (p := 18) (e := -1) (m := 0) hB hr hRX (by decide) h18 hP hz ⟨by decide, by decide⟩ inI_m1
      obtain ⟨Y, P', y1, y2, y3, y4, y5⟩ := ih (i + 1) (ma (ma X 41 W) 18 P1) P1 (by omega) (by omega) (by omega) (fun j j1 j2 => by rw [ma_ne j2, ma_ne j1]; exact hX j j1 j2) ma_same d3 (fun q hq => by rw [ma_ne (by decide), ma_same]; exact d2 q hq)
      refine ⟨Y, P', ?_, y2, y3, y4, fun Z B hZ hE hBB h3 hT h130 => ?_⟩
      · rw [if_neg g, e2, cm_ok hr, d1, cl_some, y1]
      · obtain ⟨U, V, B1, f1, f2, f3, f4, f5⟩ := d4 Z B hZ hE hBB hT h130
        have hE1 : EQV A B1 := fun k hk => by rw [f3 k (by omega) (by omega)]; exact hE k hk
        have b3 := hBB.2.2.1
        have b4 := hBB.2.2.2.1
        have hB1 : BD B1 := hB.tx hE1 (by omega) (by rw [f3 4 (by decide) (by decide), ← hE 6 (by decide)]; exact b4)
        obtain ⟨Z', B', z1, z2, z3, z4, z5, z6, z7⟩ := y5 (ma (ma (ma Z 131 U) 130 V) 121 B1) B1 ma_same hE1 hB1 (by omega) f2 (fun q q0 q1 => by rw [ma_ne (by decide), ma_same]; exact f5 q q0 q1)
        refine ⟨Z', B', ?_, z2, fun j j1 j2 j3 => ?_, z4, fun k k1 k2 => by rw [z5 k k1 k2, f3 k k1 k2], by omega, z7⟩
        · rw [L_X12_pass_39, c2_ok (by omega) (by omega) (by omega) (by omega), if_neg g, f1, cl_some, z1]
        · rw [z3 j j1 j2 j3, ma_ne j1, ma_ne j2, ma_ne j3]
theorem q_pass : pair_20 REL := by
  intro n hn cn X hcn h
  obtain ⟨n1, n2, n3, n4, n5, n6⟩ := h.now
  have b3 := n3.2.2.1
  have b4 := n3.2.2.2.1
  have h99 : X 121 3 ≤ 99 := h.2.2.2.1
  have hRW := h.rw
  have hJ : inJ n := ⟨by have := hn.1; omega, by have := hn.2; omega⟩
  have e121 : ∀ v : Int, ms X 0 16 v 121 = X 121 := fun v => s16 (by decide)
  show OUT cn (f_X11_pass n) (f_X12_pass n) X
  by_cases g : 1 ≤ n ∧ n ≤ 9
  · by_cases g2 : X 121 3 + n ≤ 99
    · obtain ⟨Y, P', y1, y2, y3, y4, y5⟩ := days_39 (X0 := X) (A := X 121) (n := n) n3 n1 n2 (by omega) KF 0 X (X 18) (by decide) (by omega) (by rw [KF_eq]; omega) (fun _ _ _ => rfl) rfl n6.r hRW.1
      have w2 : ∀ i : Int, i ≠ 2 → i ≠ 0 → ms (ms Y 2 3 (X 121 3 + n)) 0 16 0 i = Y i := fun i a b => by rw [ms_ne b, ms_ne a]
      obtain ⟨Z', B', z1, z2, z3, z4, z5, z6, z7⟩ := y5 (ms (ms Y 2 3 (X 121 3 + n)) 0 16 0) (X 121) (by rw [w2 121 (by decide) (by decide)]; exact y2 121 (by decide) (by decide)) (fun _ _ => rfl) n3 (by omega) n6 (fun q q0 q1 => by rw [w2 130 (by decide) (by decide), y2 130 (by decide) (by decide)]; exact hRW.2 q q0 q1)
      have eY2 : Y 2 = X 2 := y2 2 (by decide) (by decide)
      have b3' : B' 3 = X 121 3 + n := by rw [z6]; omega
      have b4' : B' 4 = X 121 4 := z5 4 (by decide) (by decide)
      refine out_th h (r := X 121 3 + n) (v := 0) (Y := ms Y 2 3 (X 121 3 + n)) (Z := Z') (by decide) (by decide) (inI_s (by omega) (by omega)) ?_ ?_ (fun i k q1 q2 => ?_) ?_ ?_ ?_ ?_ ?_ ?_
      · unfold f_X11_pass
        rw [c2_ok hn.1 hn.2 (by decide) (by decide), if_neg (by omega), c2_ok hn.1 hn.2 (by decide) (by decide), if_pos g.2, n4, c2_ok (by omega) (by omega) (by decide) (by decide), if_pos g2, y1, B_X11_pass_73, bd_eq, eY2, n4, answer_eq, cl_some, ms_at, if_pos ⟨rfl, rfl⟩]
      · unfold f_X12_pass
        rw [c1_okk hn.1 hn.2, isFrom_eq hJ (by constructor <;> decide) (by constructor <;> decide), if_pos g, cl_some, c1_okk (by decide) (by decide), if_pos (by decide), ax_ok (n := 2200) (by decide) (by decide), w2 121 (by decide) (by decide), y2 121 (by decide) (by decide), c2_ok (by omega) (by omega) (by decide) (by decide), if_pos g2, z1, B_X12_pass_56, ax_ok (n := 2200) (by decide) (by decide), gives_eq, cl_some, z2, b3']
      · unfold TCH at q2
        unfold SCR at q1
        by_cases a1 : i = 121
        · subst a1
          rw [ms_ne (by decide), z2, z5 k (by omega) (by omega), ms_ne (by decide), ms_ne (by decide)]
        · rw [ms_at, ms_at, z3 i a1 (by omega) (by omega), ms_at, ms_at, ms_at]
          by_cases a2 : i = 120 ∧ k = 2
          · rw [if_pos a2, if_pos a2]
          · rw [if_neg a2, if_neg a2]
            by_cases a3 : i = 0 ∧ k = 16
            · rw [if_pos a3, if_pos a3]
            · rw [if_neg a3, if_neg a3, if_neg (by omega), y2 i (by omega) (by omega)]
      · rw [z2, b3']
        exact ⟨by omega, g2⟩
      · rw [z2, b4']
        exact b4
      · rw [z2, b3', z3 2 (by decide) (by decide) (by decide), ms_ne (by decide), ms_at, if_pos ⟨rfl, rfl⟩]
      · rw [z2, b4', z3 2 (by decide) (by decide) (by decide), ms_ne (by decide), ms_at, if_neg (by decide), eY2]
        exact n5
      · rw [z2, z3 18 (by decide) (by decide) (by decide), w2 18 (by decide) (by decide), y3]
        exact z4
      · refine ⟨fun q hq => ?_, z7⟩
        rw [z3 41 (by decide) (by decide) (by decide), w2 41 (by decide) (by decide)]
        exact y4 q hq
    · refine out_st h (r := -1) (v := 4) (by decide) (by decide) inI_m1 ?_ ?_
      · unfold f_X11_pass
        rw [c2_ok hn.1 hn.2 (by decide) (by decide), if_neg (by omega), c2_ok hn.1 hn.2 (by decide) (by decide), if_pos g.2, n4, c2_ok (by omega) (by omega) (by decide) (by decide), if_neg g2, fail_eq, cl_some]
      · unfold f_X12_pass
        rw [c1_okk hn.1 hn.2, isFrom_eq hJ (by constructor <;> decide) (by constructor <;> decide), if_pos g, cl_some, c1_okk (by decide) (by decide), if_pos (by decide), ax_ok (n := 2200) (by decide) (by decide), e121, c2_ok (by omega) (by omega) (by decide) (by decide), if_neg g2, refusem_eq, cl_some]
  · refine out_st h (r := -1) (v := 1) (by decide) (by decide) inI_m1 ?_ ?_
    · unfold f_X11_pass B_X11_pass_11
      rw [c2_ok hn.1 hn.2 (by decide) (by decide)]
      by_cases g1 : n < 1
      · rw [if_pos g1, fail_eq, cl_some]
      · rw [if_neg g1, c2_ok hn.1 hn.2 (by decide) (by decide), if_neg (by omega), fail_eq, cl_some]
    · unfold f_X12_pass
      rw [c1_okk hn.1 hn.2, isFrom_eq hJ (by constructor <;> decide) (by constructor <;> decide), if_neg g, cl_some, c1_okk (by decide) (by decide), if_neg (by decide), refusem_eq, cl_some]
