/-! a day passes -/
def gx (A : Int → Int) (e m b : Int) : Int := if b = e then min 16 (A (28 + 4 * b + 2) + m) else A (28 + 4 * b + 2)
def bf (g c t : Int) (W : Int → Int) (s : Int) : Int := if ia s t = 0 then W s * (16 - c) + W (io s t) * g else W (ia s (ix t (-1))) * c + W s * (16 - g)
def PW (A : Int → Int) (e m : Int) (P : Int → Int) : Nat → Int → Int
  | 0 => P
  | n + 1 => bf (gx A e m n) (A (28 + 4 * (n : Int) + 3)) (ishl 1 (n : Int)) (PW A e m P n)
theorem pf1 : ∀ (b : Fin 5) (s : Fin 32), ia (s.val : Int) (ishl 1 (b.val : Int)) = 0 → ia (s.val : Int) (ix (ishl 1 (b.val : Int)) (-1)) = s.val ∧ ia (io (s.val : Int) (ishl 1 (b.val : Int))) (ix (ishl 1 (b.val : Int)) (-1)) = s.val ∧ ia (io (s.val : Int) (ishl 1 (b.val : Int))) (ishl 1 (b.val : Int)) ≠ 0 ∧ (s.val : Int) < io (s.val : Int) (ishl 1 (b.val : Int)) ∧ io (s.val : Int) (ishl 1 (b.val : Int)) < 32 := by decide +kernel
theorem pf2 : ∀ (b : Fin 5) (s : Fin 32), 0 ≤ ia (s.val : Int) (ix (ishl 1 (b.val : Int)) (-1)) ∧ ia (s.val : Int) (ix (ishl 1 (b.val : Int)) (-1)) ≤ s.val ∧ ia (ia (s.val : Int) (ix (ishl 1 (b.val : Int)) (-1))) (ishl 1 (b.val : Int)) = 0 ∧ ((s.val : Int) = ia (s.val : Int) (ix (ishl 1 (b.val : Int)) (-1)) ∨ (s.val : Int) = io (ia (s.val : Int) (ix (ishl 1 (b.val : Int)) (-1))) (ishl 1 (b.val : Int))) ∧ ((s.val : Int) = io (s.val : Int) (ishl 1 (b.val : Int)) ↔ ia (s.val : Int) (ishl 1 (b.val : Int)) ≠ 0) := by decide +kernel
theorem pf3 : ∀ (m : Fin 6) (b : Fin 5) (s : Fin 32), b.val < m.val → (s.val < 2 ^ m.val → io (s.val : Int) (ishl 1 (b.val : Int)) < ((2 ^ m.val : Nat) : Int)) ∧ (2 ^ m.val ≤ s.val → ((2 ^ m.val : Nat) : Int) ≤ ia (s.val : Int) (ix (ishl 1 (b.val : Int)) (-1))) := by decide +kernel
theorem pf_1 {b s : Int} (b0 : 0 ≤ b) (b1 : b < 5) (s0 : 0 ≤ s) (s1 : s < 32) (h : ia s (ishl 1 b) = 0) : ia s (ix (ishl 1 b) (-1)) = s ∧ ia (io s (ishl 1 b)) (ix (ishl 1 b) (-1)) = s ∧ ia (io s (ishl 1 b)) (ishl 1 b) ≠ 0 ∧ s < io s (ishl 1 b) ∧ io s (ishl 1 b) < 32 := by
  obtain ⟨bf, rfl⟩ := fin5 b0 b1
  obtain ⟨sf, rfl⟩ := fin32 s0 s1
  exact pf1 bf sf h
theorem pf_2 {b s : Int} (b0 : 0 ≤ b) (b1 : b < 5) (s0 : 0 ≤ s) (s1 : s < 32) : 0 ≤ ia s (ix (ishl 1 b) (-1)) ∧ ia s (ix (ishl 1 b) (-1)) ≤ s ∧ ia (ia s (ix (ishl 1 b) (-1))) (ishl 1 b) = 0 ∧ (s = ia s (ix (ishl 1 b) (-1)) ∨ s = io (ia s (ix (ishl 1 b) (-1))) (ishl 1 b)) ∧ (s = io s (ishl 1 b) ↔ ia s (ishl 1 b) ≠ 0) := by
  obtain ⟨bf, rfl⟩ := fin5 b0 b1
  obtain ⟨sf, rfl⟩ := fin32 s0 s1
  exact pf2 bf sf
theorem pf_3 {A : Int → Int} {b s : Int} (hA : 0 ≤ A 2 ∧ A 2 ≤ 5) (b0 : 0 ≤ b) (b1 : b < A 2) (s0 : 0 ≤ s) (s1 : s < 32) : (s < NS A → io s (ishl 1 b) < NS A) ∧ (NS A ≤ s → NS A ≤ ia s (ix (ishl 1 b) (-1))) := by
  obtain ⟨n1, n2, n3⟩ := NS_v hA
  obtain ⟨bf, rfl⟩ := fin5 b0 (by omega)
  obtain ⟨sf, rfl⟩ := fin32 s0 s1
  have h := pf3 ⟨(A 2).toNat, by omega⟩ bf sf (by show bf.val < (A 2).toNat; omega)
  rw [n1]
  exact ⟨fun e => h.1 (Int.ofNat_lt.mp e), fun e => h.2 (Int.ofNat_le.mp e)⟩
/-- what is thought, as far as the class has it -/
def THr (P : Int → Int) (N : Int) : Prop := (∀ q : Int, 0 ≤ q → q < 32 → 0 ≤ P q ∧ P q ≤ 1000000) ∧ sm P 32 = 1000000 ∧ ∀ q : Int, N ≤ q → q < 32 → P q = 0
theorem pair_sum {h : Int → Int} {b : Int} (b0 : 0 ≤ b) (b1 : b < 5) : sm h 32 = sm (fun s => if ia s (ishl 1 b) = 0 then h s + h (io s (ishl 1 b)) else 0) 32 := by
  obtain ⟨bf, rfl⟩ := fin5 b0 b1
  have e2 : sm (fun s => if decide (ia s (ishl 1 (bf.val : Int)) = 0) = true then h (io s (ishl 1 (bf.val : Int))) else 0) 32 = sm (fun s => if ia s (ishl 1 (bf.val : Int)) = 0 then 0 else h s) 32 := by
    rw [reidx (c := fun s => decide (ia s (ishl 1 (bf.val : Int)) = 0)) (φ := fun s => io s (ishl 1 (bf.val : Int))) (h := h) (fun s s0 s1 hc => by
      have d := dr3' b0 b1 s0 s1 (by simpa using hc)
      exact ⟨by omega, d.2⟩) 32 (Nat.le_refl _), sm_dot]
    refine sm_ext 32 fun s s0 s1 => ?_
    obtain ⟨sf, rfl⟩ := fin32 s0 s1
    have d := dr4 bf sf
    rw [d]
    split
    · rw [Int.zero_mul]
    · rw [Int.one_mul]
  have e3 : sm (fun s => if ia s (ishl 1 (bf.val : Int)) = 0 then h s + h (io s (ishl 1 (bf.val : Int))) else 0) 32 = sm (fun s => (if ia s (ishl 1 (bf.val : Int)) = 0 then h s else 0) + (if decide (ia s (ishl 1 (bf.val : Int)) = 0) = true then h (io s (ishl 1 (bf.val : Int))) else 0)) 32 := sm_ext 32 fun s _ _ => by
    by_cases g : ia s (ishl 1 (bf.val : Int)) = 0 <;> simp [g]
  rw [e3, sm_add, e2, ← sm_add]
  exact sm_ext 32 fun s _ _ => by
    by_cases g : ia s (ishl 1 (bf.val : Int)) = 0 <;> simp [g]
theorem sm_mul {w : Int → Int} {c : Int} : ∀ n : Nat, sm (fun s => c * w s) n = c * sm w n
  | 0 => by
    show (0 : Int) = c * 0
    rw [Int.mul_zero]
  | n + 1 => by
    show sm (fun s => c * w s) n + c * w n = c * (sm w n + w n)
    rw [sm_mul n, Int.mul_add]
theorem bf_sum {W : Int → Int} {g c b : Int} (b0 : 0 ≤ b) (b1 : b < 5) : sm (bf g c (ishl 1 b) W) 32 = 16 * sm W 32 := by
  rw [pair_sum b0 b1, pair_sum (h := W) b0 b1, ← sm_mul]
  refine sm_ext 32 fun s s0 s1 => ?_
  by_cases h : ia s (ishl 1 b) = 0
  · obtain ⟨p1, p2, p3, p4, p5⟩ := pf_1 b0 b1 s0 s1 h
    rw [if_pos h, if_pos h]
    unfold bf
    rw [if_pos h, if_neg p3, p2]
    rw [Int.mul_sub, Int.mul_sub, Int.mul_add]
    omega
  · rw [if_neg h, if_neg h]
    rfl
theorem bf_r {W : Int → Int} {g c b : Int} (b0 : 0 ≤ b) (b1 : b < 5) (g0 : 0 ≤ g ∧ g ≤ 16) (c0 : 0 ≤ c ∧ c ≤ 16) (hW : ∀ s : Int, 0 ≤ s → s < 32 → 0 ≤ W s) (s : Int) (s0 : 0 ≤ s) (s1 : s < 32) : 0 ≤ bf g c (ishl 1 b) W s := by
  unfold bf
  split
  · rename_i h
    obtain ⟨p1, p2, p3, p4, p5⟩ := pf_1 b0 b1 s0 s1 h
    exact Int.add_nonneg (Int.mul_nonneg (hW s s0 s1) (by omega)) (Int.mul_nonneg (hW _ (by omega) p5) (by omega))
  · have p := pf_2 b0 b1 s0 s1
    exact Int.add_nonneg (Int.mul_nonneg (hW _ p.1 (by omega)) (by omega)) (Int.mul_nonneg (hW s s0 s1) (by omega))
theorem bf_z {A W : Int → Int} {g c b : Int} (hA : 0 ≤ A 2 ∧ A 2 ≤ 5) (b0 : 0 ≤ b) (b1 : b < A 2) (hW : ∀ s : Int, NS A ≤ s → s < 32 → W s = 0) (s : Int) (s0 : NS A ≤ s) (s1 : s < 32) : bf g c (ishl 1 b) W s = 0 := by
  have hN := NS_r hA
  have p3 := (pf_3 hA b0 b1 (show 0 ≤ s by omega) s1).2 s0
  unfold bf
  split
  · rename_i h
    obtain ⟨p1, p2, p3, p4, p5⟩ := pf_1 b0 (by omega) (show 0 ≤ s by omega) s1 h
    rw [hW s s0 s1, hW _ (by omega) p5, Int.zero_mul, Int.zero_mul]
    rfl
  · have p := pf_2 b0 (by omega) (show 0 ≤ s by omega) s1
    rw [hW s s0 s1, hW _ p3 (by omega), Int.zero_mul, Int.zero_mul]
    rfl
theorem gx_r {A : Int → Int} (hB : BD A) {e m b : Int} (hm : 0 ≤ m) (b0 : 0 ≤ b) (b1 : b < 5) : 0 ≤ gx A e m b ∧ gx A e m b ≤ 16 := by
  have h := hB.2.2.2.2.2.2.2.2.2.2.2.2.2.2.2.1 (28 + 4 * b + 2) (by omega) (by omega)
  unfold gx
  split <;> omega
theorem PW_r {A P : Int → Int} {e m : Int} (hB : BD A) (hm : 0 ≤ m) (hP : THr P (NS A)) : ∀ n : Nat, (n : Int) ≤ A 2 → (∀ s : Int, 0 ≤ s → s < 32 → 0 ≤ PW A e m P n s) ∧ sm (PW A e m P n) 32 = 16 ^ n * 1000000 ∧ ∀ s : Int, NS A ≤ s → s < 32 → PW A e m P n s = 0
  | 0, _ => ⟨fun s a b => (hP.1 s a b).1, by rw [show PW A e m P 0 = P from rfl, hP.2.1]; rfl, hP.2.2⟩
  | n + 1, h => by
    have hA := hB.2.1
    obtain ⟨h1, h2, h3⟩ := PW_r hB hm hP (e := e) n (by omega)
    have hc := hB.2.2.2.2.2.2.2.2.2.2.2.2.2.2.2.1 (28 + 4 * (n : Int) + 3) (by omega) (by omega)
    refine ⟨fun s a b => ?_, ?_, fun s a b => ?_⟩
    · exact bf_r (by omega) (by omega) (gx_r hB hm (by omega) (by omega)) hc h1 s a b
    · show sm (bf _ _ _ (PW A e m P n)) 32 = _
      rw [bf_sum (by omega) (by omega), h2, ← Int.mul_assoc]
      congr 1
      rw [Int.pow_succ, Int.mul_comm]
    · exact bf_z hA (by omega) (by omega) h3 s a b
theorem PW_b {A P : Int → Int} {e m : Int} (hB : BD A) (hm : 0 ≤ m) (hP : THr P (NS A)) (n : Nat) (hn : (n : Int) ≤ A 2) : 0 < sm (PW A e m P n) 32 ∧ ∀ s : Int, 0 ≤ s → s < 32 → 0 ≤ PW A e m P n s ∧ PW A e m P n s ≤ 2000000000000 := by
  have hA := hB.2.1
  obtain ⟨h1, h2, h3⟩ := PW_r hB hm hP (e := e) n hn
  have hp : (0 : Int) < 16 ^ n * 1000000 ∧ (16 : Int) ^ n * 1000000 ≤ 2000000000000 := by
    rcases show n = 0 ∨ n = 1 ∨ n = 2 ∨ n = 3 ∨ n = 4 ∨ n = 5 by omega with rfl | rfl | rfl | rfl | rfl | rfl <;> decide
  refine ⟨by omega, fun s s0 s1 => ⟨h1 s s0 s1, ?_⟩⟩
  have h4 := sm_le (v := PW A e m P n) 32 (fun q hq => h1 q (by omega) (by omega)) s.toNat (by omega)
  rw [Int.toNat_of_nonneg s0] at h4
  omega
