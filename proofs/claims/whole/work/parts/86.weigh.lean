/-! some set weighs -/
theorem bits_ex : ∀ (m : Fin 6) (p0 p1 p2 p3 p4 : Bool), ∃ x : Fin 32, x.val < 2 ^ m.val ∧ ∀ b : Fin 5, b.val < m.val → (decide (ia (ishr (x.val : Int) (b.val : Int)) 1 = 1) = [p0, p1, p2, p3, p4].getD b.val false) := by decide +kernel
theorem ishl_pow : ∀ m : Fin 6, ishl 1 (m.val : Int) = ((2 ^ m.val : Nat) : Int) := by decide +kernel
theorem wtk_pos {ch : Int → Int} (hch : ∀ b : Int, 0 ≤ b → b < 5 → 0 ≤ ch b ∧ ch b ≤ 16) {m : Nat} (hm : m ≤ 5) : ∃ x : Nat, x < 2 ^ m ∧ 0 < wtk ch x m := by
  obtain ⟨x, hx, hb⟩ := bits_ex ⟨m, by omega⟩ (decide (0 < ch 0)) (decide (0 < ch 1)) (decide (0 < ch 2)) (decide (0 < ch 3)) (decide (0 < ch 4))
  refine ⟨x.val, hx, ?_⟩
  have key : ∀ b : Nat, b < m → decide (ia (ishr (x.val : Int) (b : Int)) 1 = 1) = decide (0 < ch b) := by
    intro b h
    have h2 := hb ⟨b, by omega⟩ h
    refine h2.trans ?_
    rcases show b = 0 ∨ b = 1 ∨ b = 2 ∨ b = 3 ∨ b = 4 by omega with rfl | rfl | rfl | rfl | rfl <;> rfl
  have all : ∀ c : Nat, c ≤ m → 0 < wtk ch x.val c := by
    intro c
    induction c with
    | zero => intro _; exact (by decide : (0 : Int) < 1)
    | succ c ih =>
      intro h
      have h1 := ih (by omega)
      have h2 := key c (by omega)
      have h3 := hch c (by omega) (by omega)
      show 0 < wtk ch x.val c * (if ia (ishr (x.val : Int) c) 1 = 1 then ch c else 16 - ch c)
      refine Int.mul_pos h1 ?_
      by_cases g : ia (ishr (x.val : Int) c) 1 = 1
      · rw [if_pos g]
        rw [decide_eq_true g] at h2
        exact of_decide_eq_true h2.symm
      · rw [if_neg g]
        rw [decide_eq_false g] at h2
        have := of_decide_eq_false h2.symm
        omega
  exact all m (Nat.le_refl _)
theorem sm_pos {w : Int → Int} : ∀ c : Nat, (∀ q : Nat, q < c → 0 ≤ w q) → ∀ x : Nat, x < c → 0 < w x → 0 < sm w c
  | 0, _, _, h, _ => absurd h (by omega)
  | c + 1, hw, x, hx, h => by
    have h0 : 0 ≤ sm w c := by
      have : ∀ d : Nat, d ≤ c → 0 ≤ sm w d := by
        intro d
        induction d with
        | zero => intro _; exact Int.le_refl _
        | succ d ih =>
          intro hd
          have a1 := ih (by omega)
          have a2 := hw d (by omega)
          show 0 ≤ sm w d + w d
          omega
      exact this c (Nat.le_refl _)
    have h1 := hw c (by omega)
    show 0 < sm w c + w c
    by_cases e : x = c
    · subst e
      omega
    · have := sm_pos c (fun q hq => hw q (by omega)) x (by omega) h
      omega
theorem wF_pos {ch : Int → Int} (hch : ∀ b : Int, 0 ≤ b → b < 5 → 0 ≤ ch b ∧ ch b ≤ 16) {m : Nat} (hm : m ≤ 5) : 0 < sm (wF ch m (2 ^ m)) 32 := by
  obtain ⟨x, hx, hp⟩ := wtk_pos hch hm
  have h32 : 2 ^ m ≤ 32 := by rcases show m = 0 ∨ m = 1 ∨ m = 2 ∨ m = 3 ∨ m = 4 ∨ m = 5 by omega with rfl | rfl | rfl | rfl | rfl | rfl <;> decide
  refine sm_pos 32 (fun q _ => (wF_r hm hch q).1) x (by omega) ?_
  unfold wF
  rw [if_pos ⟨by omega, by omega⟩]
  exact hp
theorem wG_pos {ch f : Int → Int} (hch : ∀ b : Int, 0 ≤ b → b < 5 → 0 ≤ ch b ∧ ch b ≤ 16) {m : Nat} (hm : m ≤ 5) : 0 < sm (wG ch m (2 ^ m) f) (2 ^ m) := by
  obtain ⟨x, hx, hp⟩ := wtk_pos hch hm
  have e : ∀ q : Nat, q < 2 ^ m → wG ch m (2 ^ m) f q = wtk ch q m := fun q hq => if_pos ⟨by omega, by omega⟩
  refine sm_pos (2 ^ m) (fun q hq => ?_) x hx ?_
  · rw [e q hq]
    exact (wtk_b hch q hm).1
  · rw [e x hx]
    exact hp
/-- the two rows of weights share alike -/
theorem wFG {ch f : Int → Int} (hch : ∀ b : Int, 0 ≤ b → b < 5 → 0 ≤ ch b ∧ ch b ≤ 16) {m : Nat} (hm : m ≤ 5) : sm (wF ch m (2 ^ m)) 32 = sm (wG ch m (2 ^ m) f) (2 ^ m) ∧ mx (wF ch m (2 ^ m)) 32 = mx (wG ch m (2 ^ m) f) (2 ^ m) := by
  have h32 : 2 ^ m ≤ 32 ∧ 0 < 2 ^ m := by rcases show m = 0 ∨ m = 1 ∨ m = 2 ∨ m = 3 ∨ m = 4 ∨ m = 5 by omega with rfl | rfl | rfl | rfl | rfl | rfl <;> decide
  have e : ∀ q : Int, 0 ≤ q → q < ((2 ^ m : Nat) : Int) → wF ch m (2 ^ m) q = wG ch m (2 ^ m) f q := fun q h0 h1 => by
    unfold wF wG
    rw [if_pos ⟨h0, h1⟩, if_pos ⟨h0, h1⟩]
  have z : ∀ q : Int, ((2 ^ m : Nat) : Int) ≤ q → wF ch m (2 ^ m) q = 0 := fun q h => if_neg (by omega)
  have hd : (32 : Nat) = 2 ^ m + (32 - 2 ^ m) := by omega
  constructor
  · rw [hd, sm_beyond _ z, sm_ext _ e]
  · rw [hd, mx_beyond h32.2 (fun q _ => (wF_r hm hch q).1) _ z, mx_ext _ e]
