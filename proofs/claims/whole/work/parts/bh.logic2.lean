/-! the logic of two runs once more, where the reference also keeps a row of openings (129) -/
def FrV (s : Int) (Z Y : Mem) : Prop := (∀ i : Int, i ≠ 120 → i ≠ 121 → i ≠ 122 → i ≠ 128 → i ≠ 129 → Y i = Z i) ∧ (∀ q : Int, q < 12 ∨ q = 16 ∨ (s = 8 ∧ q = 17) ∨ (20 < q ∧ q < 24) ∨ 25 < q → Y 120 q = Z 120 q) ∧ (∀ q : Int, q < 1760 → Y 121 q = Z 121 q) ∧ (∀ q : Int, q < 20 → Y 122 q = Z 122 q)
abbrev FrW (Z Y : Mem) : Prop := FrV 8 Z Y
abbrev FrWB (Z Y : Mem) : Prop := FrV 10 Z Y
theorem FrW.rfl' {X : Mem} : FrW X X := ⟨fun _ _ _ _ _ _ => rfl, fun _ _ => rfl, fun _ _ => rfl, fun _ _ => rfl⟩
theorem FrW.trans {s : Int} {X Y Z : Mem} (h : FrW X Y) (g : FrV s Y Z) : FrV s X Z := ⟨fun i a b c d e => by rw [g.1 i a b c d e, h.1 i a b c d e], fun q a => by rw [g.2.1 q a, h.2.1 q (by omega)], fun q a => by rw [g.2.2.1 q a, h.2.2.1 q a], fun q a => by rw [g.2.2.2 q a, h.2.2.2 q a]⟩
theorem FrW.a {Z : Mem} {R : Int → Int} (h : ∀ q : Int, q < 12 ∨ 15 < q → R q = Z 120 q) : FrW Z (ma Z 120 R) := ⟨fun i a _ _ _ _ => ma_ne a, fun q a => by rw [ma_same]; exact h q (by omega), fun q _ => by rw [ma_ne (by decide)], fun q _ => by rw [ma_ne (by decide)]⟩
theorem FrW.fl {Z : Mem} {f b : Int} : FrWB Z (flM Z f b) := ⟨fun i a _ _ _ _ => by unfold flM; rw [ms_ne a, ms_ne a], fun q a => by unfold flM; rw [ms_at, if_neg (by omega), ms_at, if_neg (by omega)], fun q _ => by unfold flM; rw [ms_ne (by decide), ms_ne (by decide)], fun q _ => by unfold flM; rw [ms_ne (by decide), ms_ne (by decide)]⟩
section logic
variable {σ : Type} (W : Int → Prop) (I : Mem → Prop) (T : Int → Int) (n p : Int) (Gd : σ → Prop) (QX QZ : σ → Mem → Prop)
/-- from token t on both runs end alike: well, at a token from p on, with QX s and QZ s; or with the same fault -/
def PARU (t : Tok) (JX JZ : Mem → Prop) (gX gZ : Mem → Option (Int × Mem)) : Prop :=
  (∃ (t' : Tok) (s : σ), p ≤ t'.b ∧ TKt T n t' ∧ Gd s ∧ (∀ X : Mem, CSt X T n t → JX X → ∃ Y : Mem, gX X = some (1, Y) ∧ CSt Y T n t' ∧ QX s Y ∧ FrC W X Y) ∧ ∀ Z : Mem, MSt Z T n t → Z 120 18 = 0 → JZ Z → ∃ Y : Mem, gZ Z = some (1, Y) ∧ MSt Y T n t' ∧ Y 120 18 = 0 ∧ QZ s Y ∧ FrW Z Y) ∨
  (∃ f b : Int, (1 ≤ f ∧ f ≤ 7) ∧ (0 ≤ b ∧ b ≤ 900) ∧ (∀ X : Mem, CSt X T n t → JX X → ∃ Y : Mem, gX X = some (0, Y) ∧ Y 35 9 = f ∧ Y 35 10 = b ∧ I Y ∧ FrB W X Y) ∧ ∀ Z : Mem, MSt Z T n t → Z 120 18 = 0 → JZ Z → ∃ Y : Mem, gZ Z = some (0, Y) ∧ Y 120 18 = f ∧ Y 120 17 = b ∧ FrWB Z Y)
variable {W I T n p Gd QX QZ}
theorem PARU.ret {t : Tok} {JX JZ : Mem → Prop} {gX gZ : Mem → Option (Int × Mem)} (s : σ) (hp : p ≤ t.b) (hK : TKt T n t) (hs : Gd s) (hX : ∀ X : Mem, JX X → gX X = some (1, X) ∧ QX s X) (hZ : ∀ Z : Mem, JZ Z → gZ Z = some (1, Z) ∧ QZ s Z) : PARU W I T n p Gd QX QZ t JX JZ gX gZ :=
  Or.inl ⟨t, s, hp, hK, hs, fun X hC hJ => ⟨X, (hX X hJ).1, hC, (hX X hJ).2, FrC.rfl'⟩, fun Z hM h18 hJ => ⟨Z, (hZ Z hJ).1, hM, h18, (hZ Z hJ).2, FrW.rfl'⟩⟩
/-- a step of the class alone -/
theorem PARU.mapX {t : Tok} {JX JX' JZ : Mem → Prop} {gX gX' gZ : Mem → Option (Int × Mem)} (h : PARU W I T n p Gd QX QZ t JX' JZ gX' gZ) (hX : ∀ X : Mem, CSt X T n t → JX X → ∃ Y : Mem, gX X = gX' Y ∧ CSt Y T n t ∧ JX' Y ∧ FrC W X Y) : PARU W I T n p Gd QX QZ t JX JZ gX gZ := by
  rcases h with ⟨t', s, h1, h2, h3, h4, h5⟩ | ⟨f, b, h1, h2, h4, h5⟩
  · refine Or.inl ⟨t', s, h1, h2, h3, fun X hC hJ => ?_, h5⟩
    obtain ⟨Y, y1, y2, y3, y4⟩ := hX X hC hJ
    obtain ⟨V, v1, v2, v3, v4⟩ := h4 Y y2 y3
    exact ⟨V, by rw [y1, v1], v2, v3, y4.trans v4⟩
  · refine Or.inr ⟨f, b, h1, h2, fun X hC hJ => ?_, h5⟩
    obtain ⟨Y, y1, y2, y3, y4⟩ := hX X hC hJ
    obtain ⟨V, v1, v2, v3, v4, v5⟩ := h4 Y y2 y3
    exact ⟨V, by rw [y1, v1], v2, v3, v4, y4.trans v5⟩
/-- a step of the reference alone -/
theorem PARU.mapZ {t : Tok} {JX JZ JZ' : Mem → Prop} {gX gZ gZ' : Mem → Option (Int × Mem)} (h : PARU W I T n p Gd QX QZ t JX JZ' gX gZ') (hZ : ∀ Z : Mem, MSt Z T n t → Z 120 18 = 0 → JZ Z → ∃ Y : Mem, gZ Z = gZ' Y ∧ MSt Y T n t ∧ Y 120 18 = 0 ∧ JZ' Y ∧ FrW Z Y) : PARU W I T n p Gd QX QZ t JX JZ gX gZ := by
  rcases h with ⟨t', s, h1, h2, h3, h4, h5⟩ | ⟨f, b, h1, h2, h4, h5⟩
  · refine Or.inl ⟨t', s, h1, h2, h3, h4, fun Z hM h18 hJ => ?_⟩
    obtain ⟨Y, y1, y2, y3, y4, y5⟩ := hZ Z hM h18 hJ
    obtain ⟨V, v1, v2, v3, v4, v5⟩ := h5 Y y2 y3 y4
    exact ⟨V, by rw [y1, v1], v2, v3, v4, y5.trans v5⟩
  · refine Or.inr ⟨f, b, h1, h2, h4, fun Z hM h18 hJ => ?_⟩
    obtain ⟨Y, y1, y2, y3, y4, y5⟩ := hZ Z hM h18 hJ
    obtain ⟨V, v1, v2, v3, v4⟩ := h5 Y y2 y3 y4
    exact ⟨V, by rw [y1, v1], v2, v3, y5.trans v4⟩
/-- both fail, at the token that stands here -/
theorem PARU.bad {t : Tok} {JX JZ : Mem → Prop} {gX gZ : Mem → Option (Int × Mem)} (f : Int) (hf : 1 ≤ f ∧ f ≤ 7) (hn : n ≤ 900) (hK : TKt T n t) (hI : ∀ X : Mem, JX X → I X) (sI : StC I) (hX : ∀ X : Mem, CSt X T n t → JX X → gX X = some (0, flC X f t.b)) (hZ : ∀ Z : Mem, MSt Z T n t → Z 120 18 = 0 → JZ Z → gZ Z = some (0, flM Z f t.b)) : PARU W I T n p Gd QX QZ t JX JZ gX gZ := by
  have hr := hK.r
  refine Or.inr ⟨f, t.b, hf, by omega, fun X hC hJ => ⟨flC X f t.b, hX X hC hJ, flC_v.1, flC_v.2, ?_, FrC.fl⟩, fun Z hM h18 hJ => ⟨flM Z f t.b, hZ Z hM h18 hJ, flM_v.1, flM_v.2, FrW.fl⟩⟩
  unfold flC
  rw [ms_ma, ms_ma]
  exact sI _ _ (sI _ _ (hI X hJ))
/-- both to the next token -/
theorem PARU.adv {t : Tok} {JX JZ : Mem → Prop} {gX gZ kX kZ : Mem → Option (Int × Mem)} (hT : TXT T n) (hK : TKt T n t) (sX : StC JX) (sZ : StM JZ) (h : TKt T n (nx T n t.e) → t.e ≤ (nx T n t.e).b → PARU W I T n p Gd QX QZ (nx T n t.e) JX JZ kX kZ) (hX : ∀ X Y : Mem, CSt X T n t → JX X → f_X8_advance X = some (0, Y) → gX X = kX Y) (hZ : ∀ Z Y : Mem, MSt Z T n t → Z 120 18 = 0 → JZ Z → f_X12_ahead Z = some (0, Y) → gZ Z = kZ Y) : PARU W I T n p Gd QX QZ t JX JZ gX gZ := by
  obtain ⟨k1, k2⟩ := nx_t hT hK
  have aX : ∀ X : Mem, CSt X T n t → JX X → ∃ Y : Mem, gX X = kX Y ∧ CSt Y T n (nx T n t.e) ∧ JX Y ∧ FrC W X Y := fun X hC hJ => by
    obtain ⟨R, r1, r2, r3⟩ := adv8 hT hK hC
    exact ⟨_, hX X _ hC hJ r1, r2, sX _ _ hJ, FrC.a r3⟩
  have aZ : ∀ Z : Mem, MSt Z T n t → Z 120 18 = 0 → JZ Z → ∃ Y : Mem, gZ Z = kZ Y ∧ MSt Y T n (nx T n t.e) ∧ Y 120 18 = 0 ∧ JZ Y ∧ FrW Z Y := fun Z hM h18 hJ => by
    obtain ⟨R, r1, r2, r3⟩ := adv12 hT hK hM
    exact ⟨_, hZ Z _ hM h18 hJ r1, r2, by rw [ma_same, r3 18 (by decide)]; exact h18, sZ _ _ (fun q a _ _ => r3 q a) hJ, FrW.a r3⟩
  rcases h k1 k2 with ⟨t', s, h1, h2, h3, h4, h5⟩ | ⟨f, b, h1, h2, h4, h5⟩
  · refine Or.inl ⟨t', s, h1, h2, h3, fun X hC hJ => ?_, fun Z hM h18 hJ => ?_⟩
    · obtain ⟨Y, y1, y2, y3, y4⟩ := aX X hC hJ
      obtain ⟨V, v1, v2, v3, v4⟩ := h4 Y y2 y3
      exact ⟨V, by rw [y1, v1], v2, v3, y4.trans v4⟩
    · obtain ⟨Y, y1, y2, y3, y4, y5⟩ := aZ Z hM h18 hJ
      obtain ⟨V, v1, v2, v3, v4, v5⟩ := h5 Y y2 y3 y4
      exact ⟨V, by rw [y1, v1], v2, v3, v4, y5.trans v5⟩
  · refine Or.inr ⟨f, b, h1, h2, fun X hC hJ => ?_, fun Z hM h18 hJ => ?_⟩
    · obtain ⟨Y, y1, y2, y3, y4⟩ := aX X hC hJ
      obtain ⟨V, v1, v2, v3, v4, v5⟩ := h4 Y y2 y3
      exact ⟨V, by rw [y1, v1], v2, v3, v4, y4.trans v5⟩
    · obtain ⟨Y, y1, y2, y3, y4, y5⟩ := aZ Z hM h18 hJ
      obtain ⟨V, v1, v2, v3, v4⟩ := h5 Y y2 y3 y4
      exact ⟨V, by rw [y1, v1], v2, v3, y5.trans v4⟩
theorem PARU.go {t t1 : Tok} {JX JX1 JZ JZ1 : Mem → Prop} {gX gZ kX kZ : Mem → Option (Int × Mem)} (h : PARU W I T n p Gd QX QZ t1 JX1 JZ1 kX kZ) (aX : ∀ X : Mem, CSt X T n t → JX X → ∃ Y : Mem, gX X = kX Y ∧ CSt Y T n t1 ∧ JX1 Y ∧ FrC W X Y) (aZ : ∀ Z : Mem, MSt Z T n t → Z 120 18 = 0 → JZ Z → ∃ Y : Mem, gZ Z = kZ Y ∧ MSt Y T n t1 ∧ Y 120 18 = 0 ∧ JZ1 Y ∧ FrW Z Y) : PARU W I T n p Gd QX QZ t JX JZ gX gZ := by
  rcases h with ⟨t', s, h1, h2, h3, h4, h5⟩ | ⟨f, b, h1, h2, h4, h5⟩
  · refine Or.inl ⟨t', s, h1, h2, h3, fun X hC hJ => ?_, fun Z hM h18 hJ => ?_⟩
    · obtain ⟨Y, y1, y2, y3, y4⟩ := aX X hC hJ
      obtain ⟨V, v1, v2, v3, v4⟩ := h4 Y y2 y3
      exact ⟨V, by rw [y1, v1], v2, v3, y4.trans v4⟩
    · obtain ⟨Y, y1, y2, y3, y4, y5⟩ := aZ Z hM h18 hJ
      obtain ⟨V, v1, v2, v3, v4, v5⟩ := h5 Y y2 y3 y4
      exact ⟨V, by rw [y1, v1], v2, v3, v4, y5.trans v5⟩
  · refine Or.inr ⟨f, b, h1, h2, fun X hC hJ => ?_, fun Z hM h18 hJ => ?_⟩
    · obtain ⟨Y, y1, y2, y3, y4⟩ := aX X hC hJ
      obtain ⟨V, v1, v2, v3, v4, v5⟩ := h4 Y y2 y3
      exact ⟨V, by rw [y1, v1], v2, v3, v4, y4.trans v5⟩
    · obtain ⟨Y, y1, y2, y3, y4, y5⟩ := aZ Z hM h18 hJ
      obtain ⟨V, v1, v2, v3, v4⟩ := h5 Y y2 y3 y4
      exact ⟨V, by rw [y1, v1], v2, v3, y5.trans v4⟩
/-- a number that is taken: the class has it in 35 8, the reference in its slot -/
theorem PARU.num {t : Tok} {JX JZ JZ1 : Mem → Prop} {gX gZ kX kZ : Mem → Option (Int × Mem)} {lo hi sl : Int} (hn : n ≤ 900) (hT : TXT T n) (hK : TKt T n t) (hlo : inI lo) (hhi : inI hi) (s0 : 1760 ≤ sl) (s1 : sl < 2200) (sX : StC JX) (sZ : StM JZ1) (hI : ∀ X : Mem, JX X → I X) (sI : StC I) (hJ1 : ∀ Z : Mem, JZ Z → JZ1 (ms Z 121 sl t.v)) (h : t.k = 2 → lo ≤ t.v → t.v ≤ hi → TKt T n (nx T n t.e) → t.e ≤ (nx T n t.e).b → PARU W I T n p Gd QX QZ (nx T n t.e) (fun Y => JX Y ∧ Y 35 8 = t.v) JZ1 kX kZ)
    (hX0 : ∀ X Y : Mem, CSt X T n t → JX X → f_X8_takeNumber lo hi X = some (0, Y) → gX X = some (0, Y)) (hX1 : ∀ X Y : Mem, CSt X T n t → JX X → f_X8_takeNumber lo hi X = some (1, Y) → gX X = kX Y)
    (hZ0 : ∀ Z Y : Mem, MSt Z T n t → Z 120 18 = 0 → JZ Z → f_X12_number sl lo hi Z = some (0, Y) → gZ Z = some (0, Y)) (hZ1 : ∀ Z Y : Mem, MSt Z T n t → Z 120 18 = 0 → JZ Z → f_X12_number sl lo hi Z = some (1, Y) → gZ Z = kZ Y) : PARU W I T n p Gd QX QZ t JX JZ gX gZ := by
  by_cases g : t.k = 2 ∧ lo ≤ t.v ∧ t.v ≤ hi
  · obtain ⟨k1, k2⟩ := nx_t hT hK
    refine (h g.1 g.2.1 g.2.2 k1 k2).go (fun X hC hJ => ?_) (fun Z hM h18 hJ => ?_)
    · obtain ⟨R, r1, r2, r3, r4⟩ := tn8_y hT hK hC hlo hhi g
      exact ⟨_, hX1 X _ hC hJ r1, r2, ⟨sX _ _ hJ, by rw [ma_same]; exact r3⟩, ⟨fun i a _ => ma_ne a, fun q a => by rw [ma_same]; exact r4 q (by omega)⟩⟩
    · obtain ⟨R, r1, r2, r3⟩ := nm_y hT hK hM hlo hhi (by omega) s1 g
      refine ⟨_, hZ1 Z _ hM h18 hJ r1, r2, by rw [ma_same, r3 18 (by decide)]; exact h18, sZ _ _ (fun q a _ _ => by rw [r3 q a, ms_ne (by decide)]) (hJ1 Z hJ), ⟨fun i a b _ _ _ => by rw [ma_ne a, ms_ne b], fun q a => by rw [ma_same]; exact r3 q (by omega), fun q a => by rw [ma_ne (by decide), ms_at, if_neg (by omega)], fun q a => by rw [ma_ne (by decide), ms_ne (by decide)]⟩⟩
  · exact PARU.bad (numF t lo hi) (numF_r g) hn hK hI sI (fun X hC hJ => hX0 X _ hC hJ (tn8_n hK hC hlo hhi g).1) (fun Z hM h18 hJ => hZ0 Z _ hM h18 hJ (nm_n hK hM h18 hlo hhi g))
/-- a sign at the end -/
theorem PARU.sign {t : Tok} {JX JZ : Mem → Prop} {gX gZ : Mem → Option (Int × Mem)} (s : σ) (hp : p ≤ t.e) (hs : Gd s) (hn : n ≤ 900) (hT : TXT T n) (hK : TKt T n t) (sX : StC JX) (sZ : StM JZ) (hI : ∀ X : Mem, JX X → I X) (sI : StC I) (hQX : ∀ X : Mem, JX X → QX s X) (hQZ : ∀ X : Mem, JZ X → QZ s X)
    (hX : ∀ (X Y : Mem) (r : Int), r = 0 ∨ r = 1 → f_X8_takeSign X = some (r, Y) → gX X = some (r, Y)) (hZ : ∀ (Z Y : Mem) (r : Int), r = 0 ∨ r = 1 → f_X12_wantSign 59 Z = some (r, Y) → gZ Z = some (r, Y)) : PARU W I T n p Gd QX QZ t JX JZ gX gZ := by
  by_cases g : t.k = 3
  · obtain ⟨k1, k2⟩ := nx_t hT hK
    refine (PARU.ret (gX := fun X => some (1, X)) (gZ := fun Z => some (1, Z)) s (by omega) k1 hs (fun X hJ => ⟨rfl, hQX X hJ⟩) (fun Z hJ => ⟨rfl, hQZ Z hJ⟩)).go (JX1 := JX) (JZ1 := JZ) (fun X hC hJ => ?_) (fun Z hM h18 hJ => ?_)
    · obtain ⟨R, r1, r2, r3⟩ := (sg8 hT hK hC).1 g
      exact ⟨_, hX X _ 1 (Or.inr rfl) r1, r2, sX _ _ hJ, FrC.a r3⟩
    · obtain ⟨R, r1, r2, r3⟩ := (wsg hT hK hM h18).1 g
      exact ⟨_, hZ Z _ 1 (Or.inr rfl) r1, r2, by rw [ma_same, r3 18 (by decide)]; exact h18, sZ _ _ (fun q a _ _ => r3 q a) hJ, FrW.a r3⟩
  · exact PARU.bad (hereF t 2) hereF_r hn hK hI sI (fun X hC hJ => hX X _ 0 (Or.inl rfl) ((sg8 hT hK hC).2 g)) (fun Z hM h18 hJ => hZ Z _ 0 (Or.inl rfl) ((wsg hT hK hM h18).2 g))
end logic
theorem PARU.wrap {σ : Type} {W : Int → Prop} {I : Mem → Prop} {T : Int → Int} {n p : Int} {Gd : σ → Prop} {QX QZ : σ → Mem → Prop} {t : Tok} {JX JZ : Mem → Prop} {gX gX' gZ gZ' : Mem → Option (Int × Mem)} (h : PARU W I T n p Gd QX QZ t JX JZ gX' gZ') (hX : ∀ (X Y : Mem) (r : Int), CSt X T n t → r = 0 ∨ r = 1 → gX' X = some (r, Y) → gX X = some (r, Y)) (hZ : ∀ Z : Mem, MSt Z T n t → gZ Z = gZ' Z) : PARU W I T n p Gd QX QZ t JX JZ gX gZ := by
  rcases h with ⟨t', s, h1, h2, h3, h4, h5⟩ | ⟨f, b, h1, h2, h4, h5⟩
  · refine Or.inl ⟨t', s, h1, h2, h3, fun X hC hJ => ?_, fun Z hM h18 hJ => ?_⟩
    · obtain ⟨Y, y1, y2⟩ := h4 X hC hJ
      exact ⟨Y, hX X Y 1 hC (Or.inr rfl) y1, y2⟩
    · rw [hZ Z hM]
      exact h5 Z hM h18 hJ
  · refine Or.inr ⟨f, b, h1, h2, fun X hC hJ => ?_, fun Z hM h18 hJ => ?_⟩
    · obtain ⟨Y, y1, y2⟩ := h4 X hC hJ
      exact ⟨Y, hX X Y 0 hC (Or.inl rfl) y1, y2⟩
    · rw [hZ Z hM]
      exact h5 Z hM h18 hJ
