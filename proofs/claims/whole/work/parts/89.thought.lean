/-! the first thought of a river, class and reference alike -/
theorem wtk_ext {c d : Int → Int} {x : Int} : ∀ n : Nat, (∀ b : Int, 0 ≤ b → b < n → c b = d b) → wtk c x n = wtk d x n
  | 0, _ => rfl
  | n + 1, h => by
    show wtk c x n * (if ia (ishr x n) 1 = 1 then c n else 16 - c n) = wtk d x n * (if ia (ishr x n) 1 = 1 then d n else 16 - d n)
    rw [wtk_ext n (fun b h0 h1 => h b h0 (by omega)), h n (by omega) (by omega)]
theorem wG_ext {c d f : Int → Int} {m N : Nat} (h : ∀ b : Int, 0 ≤ b → b < m → c b = d b) : wG c m N f = wG d m N f := by
  funext q
  unfold wG
  rw [wtk_ext m h]
theorem think_pair {r p : Int} {m : Nat} {X : Mem} (hm : m ≤ 5) (hr : r ≠ 41) (hr6 : r + 6 ≠ 41) (hp : p ≠ 41) (h2 : X r 2 = m) (hch : ∀ b : Int, 0 ≤ b → b < 5 → 0 ≤ X (r + 6) b ∧ X (r + 6) b ≤ 16) (hz : ∀ q : Int, q < 0 ∨ 32 ≤ q → X 41 q = 0)
    (g2 : X 121 2 = m) (gch : ∀ b : Int, 0 ≤ b → b < 5 → 0 ≤ X 121 (28 + 4 * b + 1) ∧ X 121 (28 + 4 * b + 1) ≤ 16) (he : ∀ b : Int, 0 ≤ b → b < m → X 121 (28 + 4 * b + 1) = X (r + 6) b) (gz : ∀ q : Int, 0 ≤ q → q < 32 → 0 ≤ X 130 q ∧ X 130 q ≤ 2000000000000) :
    ∃ (W P V G : Int → Int), f_X9_think r p X = some (0, ma (ma X 41 W) p P) ∧ (∀ Y : Mem, Y 121 = X 121 → Y 130 = X 130 → f_X12_first Y = some (0, ma (ma Y 130 V) 121 G)) ∧
      (∀ q : Int, q < 0 ∨ 32 ≤ q → W q = 0) ∧ (∀ q : Int, 0 ≤ q → q < 32 → 0 ≤ V q ∧ V q ≤ 2000000000000) ∧
      (∀ q : Int, q < 0 ∨ 32 ≤ q → P q = X p q) ∧ (∀ q : Nat, q < 32 → 0 ≤ P q ∧ P q ≤ 1000000) ∧ sm P 32 = 1000000 ∧ (∀ q : Int, ((2 ^ m : Nat) : Int) ≤ q → q < 32 → P q = 0) ∧
      (∀ q : Int, 0 ≤ q → q < ((2 ^ m : Nat) : Int) → G (168 + q) = P q) ∧ (∀ q : Int, q < 168 ∨ 168 + ((2 ^ m : Nat) : Int) ≤ q → G q = X 121 q) := by
  have h32 : 2 ^ m ≤ 32 ∧ 0 < 2 ^ m := by rcases show m = 0 ∨ m = 1 ∨ m = 2 ∨ m = 3 ∨ m = 4 ∨ m = 5 by omega with rfl | rfl | rfl | rfl | rfl | rfl <;> decide
  have hN : ishl 1 (m : Int) = ((2 ^ m : Nat) : Int) := ishl_pow ⟨m, by omega⟩
  have hW := wF_pos hch hm
  have eV : wG (fun b => X 121 (28 + 4 * b + 1)) m (2 ^ m) (X 130) = wG (X (r + 6)) m (2 ^ m) (X 130) := wG_ext he
  refine ⟨wF (X (r + 6)) m (2 ^ m), shF (wF (X (r + 6)) m (2 ^ m)) (X p), wG (X (r + 6)) m (2 ^ m) (X 130), shM (2 ^ m) (wG (X (r + 6)) m (2 ^ m) (X 130)) (X 121), ?_, ?_, ?_, ?_, ?_, ?_, shF_sum, ?_, ?_, ?_⟩
  · rw [think_eq hm h32.1 hr hr6 hp h2 hch hN hz, if_pos hW]
  · intro Y y1 y3
    have h := first_eq (m := m) (N := 2 ^ m) (X := Y) hm h32.2 h32.1 (by rw [y1, g2]) (by rw [y1]; exact gch) hN (by rw [y3]; exact gz) (by rw [y1, y3]; exact wG_pos gch hm)
    rw [y1, y3, eV] at h
    exact h
  · intro q hq
    exact if_neg (by omega)
  · intro q q0 q1
    unfold wG
    split
    · exact wtk_b hch q hm
    · exact gz q q0 q1
  · intro q hq
    exact if_neg (by omega)
  · intro q hq
    exact shF_r hW (fun q _ _ => (wF_r hm hch q).1) q hq
  · intro q q0 q1
    exact shF_beyond hch hm q q0 q1
  · intro q q0 q1
    exact (shFM hch hm q q0 q1).symm
  · intro q hq
    exact if_neg (by omega)
