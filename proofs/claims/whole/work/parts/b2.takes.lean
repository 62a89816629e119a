/-! texts: a logic of two runs, the class's and the reference's, token by token -/
abbrev Tok : Type := Int × Int × Int × Int × Int
def Tok.b (t : Tok) : Int := t.1
def Tok.e (t : Tok) : Int := t.2.1
def Tok.k (t : Tok) : Int := t.2.2.1
def Tok.w (t : Tok) : Int := t.2.2.2.1
def Tok.v (t : Tok) : Int := t.2.2.2.2
def TKt (T : Int → Int) (n : Int) (t : Tok) : Prop := TK T n t.b t.e t.k t.w t.v
def CSt (X : Mem) (T : Int → Int) (n : Int) (t : Tok) : Prop := CS X T n t.b t.e t.k t.w t.v
def MSt (Z : Mem) (T : Int → Int) (n : Int) (t : Tok) : Prop := MS Z T n t.b t.e t.k t.v
theorem nx_ex (T : Int → Int) (n p : Int) : ∃ t : Tok, TXT T n → 0 ≤ p → p ≤ n → TKt T n t ∧ p ≤ t.b ∧
    (∀ X : Mem, X 36 = T → X 35 2 = n → X 35 3 = p → ∃ R' : Int → Int, f_X8_advance X = some (0, ma X 35 R') ∧ CSt (ma X 35 R') T n t ∧ ∀ q : Int, q < 3 ∨ 7 < q → R' q = X 35 q) ∧
    (∀ Z : Mem, (∀ i : Int, 0 ≤ i → i < n → Z 127 i = T i) → Z 120 11 = n → Z 120 14 = p → ∃ R' : Int → Int, f_X12_ahead Z = some (0, ma Z 120 R') ∧ MSt (ma Z 120 R') T n t ∧ ∀ q : Int, q < 12 ∨ 15 < q → R' q = Z 120 q) := by
  by_cases h : TXT T n ∧ 0 ≤ p ∧ p ≤ n
  · obtain ⟨b, e, k, w, v, h1⟩ := adv_both h.1 h.2.1 h.2.2
    exact ⟨⟨b, e, k, w, v⟩, fun _ _ _ => h1⟩
  · exact ⟨⟨0, 0, 0, 0, 0⟩, fun a b c => absurd ⟨a, b, c⟩ h⟩
noncomputable def nx (T : Int → Int) (n p : Int) : Tok := Classical.choose (nx_ex T n p)
theorem nx_k {T : Int → Int} {n p : Int} (hT : TXT T n) (p0 : 0 ≤ p) (p1 : p ≤ n) : TKt T n (nx T n p) ∧ p ≤ (nx T n p).b := by
  have h := Classical.choose_spec (nx_ex T n p) hT p0 p1
  exact ⟨h.1, h.2.1⟩
theorem TKt.r {T : Int → Int} {n : Int} {t : Tok} (h : TKt T n t) : 0 ≤ t.b ∧ t.b ≤ t.e ∧ t.e ≤ n := h.1
theorem nx_t {T : Int → Int} {n : Int} {t : Tok} (hT : TXT T n) (h : TKt T n t) : TKt T n (nx T n t.e) ∧ t.e ≤ (nx T n t.e).b := by
  have := h.r
  exact nx_k hT (by omega) (by omega)
theorem adv8 {X : Mem} {T : Int → Int} {n : Int} {t : Tok} (hT : TXT T n) (hK : TKt T n t) (hC : CSt X T n t) : ∃ R' : Int → Int, f_X8_advance X = some (0, ma X 35 R') ∧ CSt (ma X 35 R') T n (nx T n t.e) ∧ ∀ q : Int, q < 3 ∨ 7 < q → R' q = X 35 q := by
  have hr := hK.r
  obtain ⟨c1, c2, c3, -⟩ := hC
  exact (Classical.choose_spec (nx_ex T n t.e) hT (by omega) (by omega)).2.2.1 X c1 c2 c3
theorem adv12 {Z : Mem} {T : Int → Int} {n : Int} {t : Tok} (hT : TXT T n) (hK : TKt T n t) (hM : MSt Z T n t) : ∃ R' : Int → Int, f_X12_ahead Z = some (0, ma Z 120 R') ∧ MSt (ma Z 120 R') T n (nx T n t.e) ∧ ∀ q : Int, q < 12 ∨ 15 < q → R' q = Z 120 q := by
  have hr := hK.r
  obtain ⟨m1, m2, m3, m4, m5, -⟩ := hM
  exact (Classical.choose_spec (nx_ex T n t.e) hT (by omega) (by omega)).2.2.2 Z m1 m2 m5
/-- the place of a token among the river's words -/
noncomputable def t33 (T : Int → Int) (t : Tok) : Int := tw T t.b t.e t.k WS33
/-- where another token must stand -/
def hereF (t : Tok) (f : Int) : Int := if t.k = 4 then 1 else f
theorem CSt.fr {X Y : Mem} {T : Int → Int} {n : Int} {t : Tok} (h : CSt X T n t) (e6 : Y 36 = X 36) (e5 : ∀ q : Int, 2 ≤ q → q ≤ 7 → Y 35 q = X 35 q) : CSt Y T n t := by
  unfold CSt CS at *
  rw [e6, e5 2 (by decide) (by decide), e5 3 (by decide) (by decide), e5 4 (by decide) (by decide), e5 5 (by decide) (by decide), e5 6 (by decide) (by decide), e5 7 (by decide) (by decide)]
  exact h
theorem MSt.fr {Z Y : Mem} {T : Int → Int} {n : Int} {t : Tok} (h : MSt Z T n t) (e7 : Y 127 = Z 127) (e0 : ∀ q : Int, 11 ≤ q → q ≤ 15 → Y 120 q = Z 120 q) : MSt Y T n t := by
  unfold MSt MS at *
  rw [e7, e0 11 (by decide) (by decide), e0 12 (by decide) (by decide), e0 13 (by decide) (by decide), e0 14 (by decide) (by decide), e0 15 (by decide) (by decide)]
  exact h
/-- what a run of the class changes: 35 (not how many bytes), and what W holds -/
def FrS (s : Int) (W : Int → Prop) (X Y : Mem) : Prop := (∀ i : Int, i ≠ 35 → ¬ W i → Y i = X i) ∧ ∀ q : Int, q < 2 ∨ 10 < q ∨ (s = 8 ∧ 8 < q) → Y 35 q = X 35 q
def FrT (s : Int) (Z Y : Mem) : Prop := (∀ i : Int, i ≠ 120 → i ≠ 121 → i ≠ 122 → i ≠ 128 → Y i = Z i) ∧ (∀ q : Int, q < 12 ∨ q = 16 ∨ (s = 8 ∧ q = 17) ∨ (20 < q ∧ q < 24) ∨ 25 < q → Y 120 q = Z 120 q) ∧ (∀ q : Int, q < 1760 → Y 121 q = Z 121 q) ∧ (∀ q : Int, q < 20 → Y 122 q = Z 122 q)
/-- well: the fault and its place stay; else not -/
abbrev FrC (W : Int → Prop) (X Y : Mem) : Prop := FrS 8 W X Y
abbrev FrB (W : Int → Prop) (X Y : Mem) : Prop := FrS 10 W X Y
abbrev FrM (Z Y : Mem) : Prop := FrT 8 Z Y
abbrev FrMB (Z Y : Mem) : Prop := FrT 10 Z Y
theorem FrC.rfl' {W : Int → Prop} {X : Mem} : FrC W X X := ⟨fun _ _ _ => rfl, fun _ _ => rfl⟩
theorem FrC.trans {s : Int} {W : Int → Prop} {X Y Z : Mem} (h : FrC W X Y) (g : FrS s W Y Z) : FrS s W X Z := ⟨fun i a b => by rw [g.1 i a b, h.1 i a b], fun q a => by rw [g.2 q a, h.2 q (by omega)]⟩
theorem FrM.rfl' {X : Mem} : FrM X X := ⟨fun _ _ _ _ _ => rfl, fun _ _ => rfl, fun _ _ => rfl, fun _ _ => rfl⟩
theorem FrM.trans {s : Int} {X Y Z : Mem} (h : FrM X Y) (g : FrT s Y Z) : FrT s X Z := ⟨fun i a b c d => by rw [g.1 i a b c d, h.1 i a b c d], fun q a => by rw [g.2.1 q a, h.2.1 q (by omega)], fun q a => by rw [g.2.2.1 q a, h.2.2.1 q a], fun q a => by rw [g.2.2.2 q a, h.2.2.2 q a]⟩
theorem FrC.a {W : Int → Prop} {X : Mem} {R : Int → Int} (h : ∀ q : Int, q < 3 ∨ 7 < q → R q = X 35 q) : FrC W X (ma X 35 R) := ⟨fun i a _ => ma_ne a, fun q a => by rw [ma_same]; exact h q (by omega)⟩
theorem FrM.a {Z : Mem} {R : Int → Int} (h : ∀ q : Int, q < 12 ∨ 15 < q → R q = Z 120 q) : FrM Z (ma Z 120 R) := ⟨fun i a _ _ _ => ma_ne a, fun q a => by rw [ma_same]; exact h q (by omega), fun q _ => by rw [ma_ne (by decide)], fun q _ => by rw [ma_ne (by decide)]⟩
theorem FrC.fl {W : Int → Prop} {X : Mem} {f b : Int} : FrB W X (flC X f b) := ⟨fun i a _ => by unfold flC; rw [ms_ne a, ms_ne a], fun q a => by unfold flC; rw [ms_at, if_neg (by omega), ms_at, if_neg (by omega)]⟩
theorem FrM.fl {Z : Mem} {f b : Int} : FrMB Z (flM Z f b) := ⟨fun i a _ _ _ => by unfold flM; rw [ms_ne a, ms_ne a], fun q a => by unfold flM; rw [ms_at, if_neg (by omega), ms_at, if_neg (by omega)], fun q _ => by unfold flM; rw [ms_ne (by decide), ms_ne (by decide)], fun q _ => by unfold flM; rw [ms_ne (by decide), ms_ne (by decide)]⟩
theorem flC_v {X : Mem} {f b : Int} : flC X f b 35 9 = f ∧ flC X f b 35 10 = b := by
  unfold flC
  exact ⟨by rw [ms_at, if_neg (by omega), ms_at, if_pos ⟨rfl, rfl⟩], by rw [ms_at, if_pos ⟨rfl, rfl⟩]⟩
theorem flM_v {Z : Mem} {f b : Int} : flM Z f b 120 18 = f ∧ flM Z f b 120 17 = b := by
  unfold flM
  exact ⟨by rw [ms_at, if_neg (by omega), ms_at, if_pos ⟨rfl, rfl⟩], by rw [ms_at, if_pos ⟨rfl, rfl⟩]⟩
/-- a property that does not see the class's text, the reference's tokens -/
def StC (J : Mem → Prop) : Prop := ∀ (X : Mem) (R : Int → Int), J X → J (ma X 35 R)
def StM (J : Mem → Prop) : Prop := ∀ (Z : Mem) (R : Int → Int), (∀ q : Int, (q < 12 ∨ 15 < q) → q ≠ 17 → q ≠ 18 → R q = Z 120 q) → J Z → J (ma Z 120 R)
section logic
variable {σ : Type} (W : Int → Prop) (I : Mem → Prop) (T : Int → Int) (n p : Int) (Gd : σ → Prop) (QX QZ : σ → Mem → Prop)
/-- from token t on both runs end alike: well, at a token from p on, with QX s and QZ s; or with the same fault -/
def PART (t : Tok) (JX JZ : Mem → Prop) (gX gZ : Mem → Option (Int × Mem)) : Prop :=
  (∃ (t' : Tok) (s : σ), p ≤ t'.b ∧ TKt T n t' ∧ Gd s ∧ (∀ X : Mem, CSt X T n t → JX X → ∃ Y : Mem, gX X = some (1, Y) ∧ CSt Y T n t' ∧ QX s Y ∧ FrC W X Y) ∧ ∀ Z : Mem, MSt Z T n t → Z 120 18 = 0 → JZ Z → ∃ Y : Mem, gZ Z = some (1, Y) ∧ MSt Y T n t' ∧ Y 120 18 = 0 ∧ QZ s Y ∧ FrM Z Y) ∨
  (∃ f b : Int, (1 ≤ f ∧ f ≤ 7) ∧ (0 ≤ b ∧ b ≤ 900) ∧ (∀ X : Mem, CSt X T n t → JX X → ∃ Y : Mem, gX X = some (0, Y) ∧ Y 35 9 = f ∧ Y 35 10 = b ∧ I Y ∧ FrB W X Y) ∧ ∀ Z : Mem, MSt Z T n t → Z 120 18 = 0 → JZ Z → ∃ Y : Mem, gZ Z = some (0, Y) ∧ Y 120 18 = f ∧ Y 120 17 = b ∧ FrMB Z Y)
variable {W I T n p Gd QX QZ}
theorem PART.ret {t : Tok} {JX JZ : Mem → Prop} {gX gZ : Mem → Option (Int × Mem)} (s : σ) (hp : p ≤ t.b) (hK : TKt T n t) (hs : Gd s) (hX : ∀ X : Mem, JX X → gX X = some (1, X) ∧ QX s X) (hZ : ∀ Z : Mem, JZ Z → gZ Z = some (1, Z) ∧ QZ s Z) : PART W I T n p Gd QX QZ t JX JZ gX gZ :=
  Or.inl ⟨t, s, hp, hK, hs, fun X hC hJ => ⟨X, (hX X hJ).1, hC, (hX X hJ).2, FrC.rfl'⟩, fun Z hM h18 hJ => ⟨Z, (hZ Z hJ).1, hM, h18, (hZ Z hJ).2, FrM.rfl'⟩⟩
/-- a step of the class alone -/
theorem PART.mapX {t : Tok} {JX JX' JZ : Mem → Prop} {gX gX' gZ : Mem → Option (Int × Mem)} (h : PART W I T n p Gd QX QZ t JX' JZ gX' gZ) (hX : ∀ X : Mem, CSt X T n t → JX X → ∃ Y : Mem, gX X = gX' Y ∧ CSt Y T n t ∧ JX' Y ∧ FrC W X Y) : PART W I T n p Gd QX QZ t JX JZ gX gZ := by
  rcases h with ⟨t', s, h1, h2, h3, h4, h5⟩ | ⟨f, b, h1, h2, h4, h5⟩
  · refine Or.inl ⟨t', s, h1, h2, h3, fun X hC hJ => ?_, h5⟩
    obtain ⟨Y, y1, y2, y3, y4⟩ := hX X hC hJ
    obtain ⟨V, v1, v2, v3, v4⟩ := h4 Y y2 y3
    exact ⟨V, by rw [y1, v1], v2, v3, y4.trans v4⟩
  · refine Or.inr ⟨f, b, h1, h2, fun X hC hJ => ?_, h5⟩
    obtain ⟨Y, y1, y2, y3, y4⟩ := hX X hC hJ
    obtain ⟨V, v1, v2, v3, v4, v5⟩ := h4 Y y2 y3
    exact ⟨V, by rw [y1, v1], v2, v3, v4, y4.trans v5⟩
/-- a step of the reference alone -/
theorem PART.mapZ {t : Tok} {JX JZ JZ' : Mem → Prop} {gX gZ gZ' : Mem → Option (Int × Mem)} (h : PART W I T n p Gd QX QZ t JX JZ' gX gZ') (hZ : ∀ Z : Mem, MSt Z T n t → Z 120 18 = 0 → JZ Z → ∃ Y : Mem, gZ Z = gZ' Y ∧ MSt Y T n t ∧ Y 120 18 = 0 ∧ JZ' Y ∧ FrM Z Y) : PART W I T n p Gd QX QZ t JX JZ gX gZ := by
  rcases h with ⟨t', s, h1, h2, h3, h4, h5⟩ | ⟨f, b, h1, h2, h4, h5⟩
  · refine Or.inl ⟨t', s, h1, h2, h3, h4, fun Z hM h18 hJ => ?_⟩
    obtain ⟨Y, y1, y2, y3, y4, y5⟩ := hZ Z hM h18 hJ
    obtain ⟨V, v1, v2, v3, v4, v5⟩ := h5 Y y2 y3 y4
    exact ⟨V, by rw [y1, v1], v2, v3, v4, y5.trans v5⟩
  · refine Or.inr ⟨f, b, h1, h2, h4, fun Z hM h18 hJ => ?_⟩
    obtain ⟨Y, y1, y2, y3, y4, y5⟩ := hZ Z hM h18 hJ
    obtain ⟨V, v1, v2, v3, v4⟩ := h5 Y y2 y3 y4
    exact ⟨V, by rw [y1, v1], v2, v3, y5.trans v4⟩
/-- both fail, at the token that stands here -/
theorem PART.bad {t : Tok} {JX JZ : Mem → Prop} {gX gZ : Mem → Option (Int × Mem)} (f : Int) (hf : 1 ≤ f ∧ f ≤ 7) (hn : n ≤ 900) (hK : TKt T n t) (hI : ∀ X : Mem, JX X → I X) (sI : StC I) (hX : ∀ X : Mem, CSt X T n t → JX X → gX X = some (0, flC X f t.b)) (hZ : ∀ Z : Mem, MSt Z T n t → Z 120 18 = 0 → JZ Z → gZ Z = some (0, flM Z f t.b)) : PART W I T n p Gd QX QZ t JX JZ gX gZ := by
  have hr := hK.r
  refine Or.inr ⟨f, t.b, hf, by omega, fun X hC hJ => ⟨flC X f t.b, hX X hC hJ, flC_v.1, flC_v.2, ?_, FrC.fl⟩, fun Z hM h18 hJ => ⟨flM Z f t.b, hZ Z hM h18 hJ, flM_v.1, flM_v.2, FrM.fl⟩⟩
  unfold flC
  rw [ms_ma, ms_ma]
  exact sI _ _ (sI _ _ (hI X hJ))
/-- both to the next token -/
theorem PART.adv {t : Tok} {JX JZ : Mem → Prop} {gX gZ kX kZ : Mem → Option (Int × Mem)} (hT : TXT T n) (hK : TKt T n t) (sX : StC JX) (sZ : StM JZ) (h : TKt T n (nx T n t.e) → t.e ≤ (nx T n t.e).b → PART W I T n p Gd QX QZ (nx T n t.e) JX JZ kX kZ) (hX : ∀ X Y : Mem, CSt X T n t → JX X → f_X8_advance X = some (0, Y) → gX X = kX Y) (hZ : ∀ Z Y : Mem, MSt Z T n t → Z 120 18 = 0 → JZ Z → f_X12_ahead Z = some (0, Y) → gZ Z = kZ Y) : PART W I T n p Gd QX QZ t JX JZ gX gZ := by
  obtain ⟨k1, k2⟩ := nx_t hT hK
  have aX : ∀ X : Mem, CSt X T n t → JX X → ∃ Y : Mem, gX X = kX Y ∧ CSt Y T n (nx T n t.e) ∧ JX Y ∧ FrC W X Y := fun X hC hJ => by
    obtain ⟨R, r1, r2, r3⟩ := adv8 hT hK hC
    exact ⟨_, hX X _ hC hJ r1, r2, sX _ _ hJ, FrC.a r3⟩
  have aZ : ∀ Z : Mem, MSt Z T n t → Z 120 18 = 0 → JZ Z → ∃ Y : Mem, gZ Z = kZ Y ∧ MSt Y T n (nx T n t.e) ∧ Y 120 18 = 0 ∧ JZ Y ∧ FrM Z Y := fun Z hM h18 hJ => by
    obtain ⟨R, r1, r2, r3⟩ := adv12 hT hK hM
    exact ⟨_, hZ Z _ hM h18 hJ r1, r2, by rw [ma_same, r3 18 (by decide)]; exact h18, sZ _ _ (fun q a _ _ => r3 q a) hJ, FrM.a r3⟩
  rcases h k1 k2 with ⟨t', s, h1, h2, h3, h4, h5⟩ | ⟨f, b, h1, h2, h4, h5⟩
  · refine Or.inl ⟨t', s, h1, h2, h3, fun X hC hJ => ?_, fun Z hM h18 hJ => ?_⟩
    · obtain ⟨Y, y1, y2, y3, y4⟩ := aX X hC hJ
      obtain ⟨V, v1, v2, v3, v4⟩ := h4 Y y2 y3
      exact ⟨V, by rw [y1, v1], v2, v3, y4.trans v4⟩
    · obtain ⟨Y, y1, y2, y3, y4, y5⟩ := aZ Z hM h18 hJ
      obtain ⟨V, v1, v2, v3, v4, v5⟩ := h5 Y y2 y3 y4
      exact ⟨V, by rw [y1, v1], v2, v3, v4, y5.trans v5⟩
  · refine Or.inr ⟨f, b, h1, h2, fun X hC hJ => ?_, fun Z hM h18 hJ => ?_⟩
    · obtain ⟨Y, y1, y2, y3, y4⟩ := aX X hC hJ
      obtain ⟨V, v1, v2, v3, v4, v5⟩ := h4 Y y2 y3
      exact ⟨V, by rw [y1, v1], v2, v3, v4, y4.trans v5⟩
    · obtain ⟨Y, y1, y2, y3, y4, y5⟩ := aZ Z hM h18 hJ
      obtain ⟨V, v1, v2, v3, v4⟩ := h5 Y y2 y3 y4
      exact ⟨V, by rw [y1, v1], v2, v3, y5.trans v4⟩
end logic
/-! single tokens -/
theorem kr {T : Int → Int} {n : Int} {t : Tok} (hK : TKt T n t) : (0 ≤ t.k ∧ t.k ≤ 4) ∧ (0 ≤ km t.k ∧ km t.k ≤ 4) ∧ (km t.k = 0 ↔ t.k = 0) ∧ (km t.k = 3 ↔ t.k = 2) ∧ (km t.k = 4 ↔ t.k = 3) ∧ (t.k = 2 → 0 ≤ t.v ∧ t.v ≤ 9999) := by
  obtain ⟨-, h⟩ := hK
  unfold km
  rcases h with ⟨h, -⟩ | ⟨h, -⟩ | ⟨h, -, h2⟩ | ⟨h, -⟩ | ⟨h, -⟩ <;> rw [h] <;> refine ⟨by decide, by decide, by decide, by decide, by decide, fun e => ?_⟩
  · exact absurd e (by decide)
  · exact absurd e (by decide)
  · exact h2
  · exact absurd e (by decide)
  · exact absurd e (by decide)
/-- a word of the river's row: the class's number of it in sB, its place -/
abbrev W33 (a q : Nat) : Prop := a < 35 ∧ q < 20 ∧ WS33.getD q [] = sB a
theorem is33 {X : Mem} {T : Int → Int} {n : Int} {t : Tok} {a q : Nat} (hw : W33 a q) (hT : TXT T n) (hK : TKt T n t) (hC : CSt X T n t) : f_X8_is a X = some (if t33 T t = q then 1 else 0, X) := by
  rw [is8_eq hT hK hC hw.1]
  have h := tw_is (T := T) (b := t.b) (e := t.e) (k := t.k) nd33 (q := q) (show q < WS33.length from hw.2.1) hw.2.2
  unfold t33
  by_cases g : tw T t.b t.e t.k WS33 = q
  · rw [if_pos g, if_pos (h.mpr g)]
  · rw [if_neg g, if_neg (fun e => g (h.mp e))]
theorem in33 {Z : Mem} {T : Int → Int} {n : Int} {t : Tok} (hT : TXT T n) (hK : TKt T n t) (hM : MSt Z T n t) : f_X12_inWords 33 Z = some (t33 T t, Z) := inWords_eq (ws := WS33) hT hK hM (p := 33) (len_sB 33) pw33 (by decide)
theorem t33_r {T : Int → Int} {t : Tok} : -1 ≤ t33 T t ∧ t33 T t < 20 := by
  have h := tw_r (T := T) (b := t.b) (e := t.e) (k := t.k) (ws := WS33)
  have hl : (WS33.length : Int) = 20 := rfl
  unfold t33
  omega
theorem tw8_y {X : Mem} {T : Int → Int} {n : Int} {t : Tok} {a q : Nat} (hw : W33 a q) (hT : TXT T n) (hK : TKt T n t) (hC : CSt X T n t) (h : t33 T t = q) : ∃ R' : Int → Int, f_X8_takeWord a X = some (1, ma X 35 R') ∧ CSt (ma X 35 R') T n (nx T n t.e) ∧ ∀ q : Int, q < 3 ∨ 7 < q → R' q = X 35 q := by
  obtain ⟨R, r1, r2, r3⟩ := adv8 hT hK hC
  refine ⟨R, ?_, r2, r3⟩
  unfold f_X8_takeWord
  rw [is33 hw hT hK hC, if_pos h, cl_some, c1_okk (by decide) (by decide), if_pos (by decide), r1, cl_some]
theorem tw8_n {X : Mem} {T : Int → Int} {n : Int} {t : Tok} {a q : Nat} (hw : W33 a q) (hT : TXT T n) (hK : TKt T n t) (hC : CSt X T n t) (h : t33 T t ≠ q) : f_X8_takeWord a X = some (0, flC X (hereF t 2) t.b) := by
  unfold f_X8_takeWord
  rw [is33 hw hT hK hC, if_neg h, cl_some, c1_okk (by decide) (by decide), if_neg (by decide), failHere_eq hK hC, cl_some, cz_0]
  rfl
theorem ww_y {Z : Mem} {T : Int → Int} {n : Int} {t : Tok} {q : Nat} (hq : q < 20) (hT : TXT T n) (hK : TKt T n t) (hM : MSt Z T n t) (h : t33 T t = q) : ∃ R' : Int → Int, f_X12_wantWord 33 q Z = some (1, ma Z 120 R') ∧ MSt (ma Z 120 R') T n (nx T n t.e) ∧ ∀ q : Int, q < 12 ∨ 15 < q → R' q = Z 120 q := by
  obtain ⟨R, r1, r2, r3⟩ := adv12 hT hK hM
  refine ⟨R, ?_, r2, r3⟩
  unfold f_X12_wantWord
  rw [in33 hT hK hM, cl_some, h, c2_ok (by omega) (by omega) (by omega) (by omega), if_pos rfl, r1, cl_some]
theorem ww_n {Z : Mem} {T : Int → Int} {n : Int} {t : Tok} {q : Nat} (hq : q < 20) (hT : TXT T n) (hK : TKt T n t) (hM : MSt Z T n t) (h18 : Z 120 18 = 0) (h : t33 T t ≠ q) : f_X12_wantWord 33 q Z = some (0, flM Z (hereF t 2) t.b) := by
  have hr := t33_r (T := T) (t := t)
  unfold f_X12_wantWord
  rw [in33 hT hK hM, cl_some, c2_ok (by omega) (by omega) (by omega) (by omega), if_neg h, fails_eq hK hM h18, cl_some, cz_0]
  rfl
theorem isn_eq {X : Mem} {T : Int → Int} {n lo hi : Int} {t : Tok} (hK : TKt T n t) (hC : CSt X T n t) (hlo : inI lo) (hhi : inI hi) : f_X8_isNumber lo hi X = if t.k = 2 then (if lo ≤ t.v ∧ t.v ≤ hi then some (1, X) else some (0, flC X 4 t.b)) else some (0, flC X (hereF t 2) t.b) := by
  obtain ⟨k1, -, -, -, -, k6⟩ := kr hK
  obtain ⟨c1, c2, c3, c4, c5', c6, c7⟩ := id hC
  have h29 : B_X8_isNumber_29 X = some (0, flC X 4 t.b) := by
    rw [B_X8_isNumber_29, fail8_eq hC, cl_some, c1_okk (by decide) (by decide), if_pos rfl]
  unfold f_X8_isNumber
  rw [c4, c2_ok (by omega) (by omega) (by decide) (by decide)]
  by_cases g : t.k = 2
  · have hv := k6 g
    rw [if_pos g, if_pos g, c7 g, c2_ok (by omega) (by omega) hlo.1 hlo.2]
    by_cases g1 : t.v < lo
    · rw [if_pos g1, h29, if_neg (by omega)]
    · rw [if_neg g1, c2_ok (by omega) (by omega) hhi.1 hhi.2]
      by_cases g2 : t.v ≤ hi
      · rw [if_pos g2, if_pos ⟨by omega, g2⟩]
      · rw [if_neg g2, h29, if_neg (by omega)]
  · rw [if_neg g, if_neg g, failHere_eq hK hC, cl_some, cz_0]
    rfl
/-- a number that is taken -/
def numF (t : Tok) (lo hi : Int) : Int := if t.k = 2 then (if lo ≤ t.v ∧ t.v ≤ hi then 0 else 4) else hereF t 2
theorem tn8_y {X : Mem} {T : Int → Int} {n lo hi : Int} {t : Tok} (hT : TXT T n) (hK : TKt T n t) (hC : CSt X T n t) (hlo : inI lo) (hhi : inI hi) (h : t.k = 2 ∧ lo ≤ t.v ∧ t.v ≤ hi) : ∃ R' : Int → Int, f_X8_takeNumber lo hi X = some (1, ma X 35 R') ∧ CSt (ma X 35 R') T n (nx T n t.e) ∧ R' 8 = t.v ∧ ∀ q : Int, q < 3 ∨ 8 < q → R' q = X 35 q := by
  have hC' : CSt (ms X 35 8 t.v) T n t := hC.fr (ms_ne (by decide)) (fun q a b => by rw [ms_at, if_neg (by omega)])
  obtain ⟨R, r1, r2, r3⟩ := adv8 hT hK hC'
  have e : ma (ms X 35 8 t.v) 35 R = ma X 35 R := by rw [ms_ma, ma_ma]
  rw [e] at r1 r2
  refine ⟨R, ?_, r2, by rw [r3 8 (by decide), ms_at, if_pos ⟨rfl, rfl⟩], fun q hq => by rw [r3 q (by omega), ms_at, if_neg (by omega)]⟩
  have c7 : X 35 7 = t.v := hC.2.2.2.2.2.2 h.1
  unfold f_X8_takeNumber
  rw [isn_eq hK hC hlo hhi, if_pos h.1, if_pos h.2, cl_some, c1_okk (by decide) (by decide), if_pos (by decide), c7, bd_eq, r1, cl_some]
theorem tn8_n {X : Mem} {T : Int → Int} {n lo hi : Int} {t : Tok} (hK : TKt T n t) (hC : CSt X T n t) (hlo : inI lo) (hhi : inI hi) (h : ¬ (t.k = 2 ∧ lo ≤ t.v ∧ t.v ≤ hi)) : f_X8_takeNumber lo hi X = some (0, flC X (numF t lo hi) t.b) ∧ f_X8_isNumber lo hi X = some (0, flC X (numF t lo hi) t.b) := by
  have h1 : f_X8_isNumber lo hi X = some (0, flC X (numF t lo hi) t.b) := by
    rw [isn_eq hK hC hlo hhi]
    unfold numF
    by_cases g : t.k = 2
    · rw [if_pos g, if_pos g, if_neg (fun e => h ⟨g, e⟩), if_neg (fun e => h ⟨g, e⟩)]
    · rw [if_neg g, if_neg g]
  refine ⟨?_, h1⟩
  unfold f_X8_takeNumber
  rw [h1, cl_some, c1_okk (by decide) (by decide), if_neg (by decide)]
theorem nm_y {Z : Mem} {T : Int → Int} {n lo hi sl : Int} {t : Tok} (hT : TXT T n) (hK : TKt T n t) (hM : MSt Z T n t) (hlo : inI lo) (hhi : inI hi) (s0 : 0 ≤ sl) (s1 : sl < 2200) (h : t.k = 2 ∧ lo ≤ t.v ∧ t.v ≤ hi) : ∃ R' : Int → Int, f_X12_number sl lo hi Z = some (1, ma (ms Z 121 sl t.v) 120 R') ∧ MSt (ma (ms Z 121 sl t.v) 120 R') T n (nx T n t.e) ∧ ∀ q : Int, q < 12 ∨ 15 < q → R' q = Z 120 q := by
  have hM' : MSt (ms Z 121 sl t.v) T n t := hM.fr (ms_ne (by decide)) (fun q _ _ => by rw [ms_ne (by decide)])
  obtain ⟨R, r1, r2, r3⟩ := adv12 hT hK hM'
  obtain ⟨-, k2, -, k4, -, k6⟩ := kr hK
  obtain ⟨m1, m2, m3, m4, m5, m6, m7⟩ := id hM
  have hv := k6 h.1
  refine ⟨R, ?_, r2, fun q hq => by rw [r3 q hq, ms_ne (by decide)]⟩
  unfold f_X12_number
  rw [m3, c2_ok (by omega) (by omega) (by decide) (by decide), if_pos (k4.mpr h.1), m6 h.1, c2_ok (by omega) (by omega) hlo.1 hlo.2, if_neg (by omega), c2_ok (by omega) (by omega) hhi.1 hhi.2, if_pos h.2.2, ax_ok s0 s1, bd_eq, r1, cl_some]
theorem nm_n {Z : Mem} {T : Int → Int} {n lo hi sl : Int} {t : Tok} (hK : TKt T n t) (hM : MSt Z T n t) (h18 : Z 120 18 = 0) (hlo : inI lo) (hhi : inI hi) (h : ¬ (t.k = 2 ∧ lo ≤ t.v ∧ t.v ≤ hi)) : f_X12_number sl lo hi Z = some (0, flM Z (numF t lo hi) t.b) := by
  obtain ⟨-, k2, -, k4, -, k6⟩ := kr hK
  obtain ⟨m1, m2, m3, m4, m5, m6, m7⟩ := id hM
  unfold f_X12_number
  rw [m3, c2_ok (by omega) (by omega) (by decide) (by decide)]
  by_cases g : t.k = 2
  · have hv := k6 g
    have h30 : B_X12_number_30 Z = some (0, flM Z (numF t lo hi) t.b) := by
      have e4 : numF t lo hi = if t.k = 4 then 1 else 4 := by
        unfold numF
        rw [if_pos g, if_neg (fun e => h ⟨g, e⟩), if_neg (by omega)]
      rw [B_X12_number_30, fails_eq hK hM h18, cl_some, cz_0, e4]
    rw [if_pos (k4.mpr g), m6 g, c2_ok (by omega) (by omega) hlo.1 hlo.2]
    by_cases g1 : t.v < lo
    · rw [if_pos g1, h30]
    · rw [if_neg g1, c2_ok (by omega) (by omega) hhi.1 hhi.2, if_neg (fun g2 => h ⟨g, by omega, g2⟩), h30]
  · have e2 : numF t lo hi = hereF t 2 := by
      unfold numF
      rw [if_neg g]
    rw [if_neg (fun e => g (k4.mp e)), fails_eq hK hM h18, cl_some, cz_0, e2]
    rfl
theorem sg8 {X : Mem} {T : Int → Int} {n : Int} {t : Tok} (hT : TXT T n) (hK : TKt T n t) (hC : CSt X T n t) : (t.k = 3 → ∃ R' : Int → Int, f_X8_takeSign X = some (1, ma X 35 R') ∧ CSt (ma X 35 R') T n (nx T n t.e) ∧ ∀ q : Int, q < 3 ∨ 7 < q → R' q = X 35 q) ∧ (t.k ≠ 3 → f_X8_takeSign X = some (0, flC X (hereF t 2) t.b)) := by
  obtain ⟨k1, -⟩ := kr hK
  have c4 : X 35 4 = t.k := hC.2.2.2.1
  constructor
  · intro h
    obtain ⟨R, r1, r2, r3⟩ := adv8 hT hK hC
    refine ⟨R, ?_, r2, r3⟩
    unfold f_X8_takeSign
    rw [c4, c2_ok (by omega) (by omega) (by decide) (by decide), if_pos h, r1, cl_some]
  · intro h
    unfold f_X8_takeSign
    rw [c4, c2_ok (by omega) (by omega) (by decide) (by decide), if_neg h, failHere_eq hK hC, cl_some, cz_0]
    rfl
theorem isg {Z : Mem} {T : Int → Int} {n : Int} {t : Tok} (hK : TKt T n t) (hM : MSt Z T n t) : f_X12_isSign 59 Z = some (if t.k = 3 then 1 else 0, Z) := by
  obtain ⟨-, k2, -, -, k5, -⟩ := kr hK
  obtain ⟨m1, m2, m3, m4, m5, m6, m7⟩ := id hM
  unfold f_X12_isSign
  rw [m3, c2_ok (by omega) (by omega) (by decide) (by decide)]
  by_cases g : t.k = 3
  · rw [if_neg (by simpa using k5.mpr g), m7 g, c2_ok (by decide) (by decide) (by decide) (by decide), if_neg (by decide), if_pos g]
  · rw [if_pos (fun e => g (k5.mp e)), if_neg g]
theorem wsg {Z : Mem} {T : Int → Int} {n : Int} {t : Tok} (hT : TXT T n) (hK : TKt T n t) (hM : MSt Z T n t) (h18 : Z 120 18 = 0) : (t.k = 3 → ∃ R' : Int → Int, f_X12_wantSign 59 Z = some (1, ma Z 120 R') ∧ MSt (ma Z 120 R') T n (nx T n t.e) ∧ ∀ q : Int, q < 12 ∨ 15 < q → R' q = Z 120 q) ∧ (t.k ≠ 3 → f_X12_wantSign 59 Z = some (0, flM Z (hereF t 2) t.b)) := by
  constructor
  · intro h
    obtain ⟨R, r1, r2, r3⟩ := adv12 hT hK hM
    refine ⟨R, ?_, r2, r3⟩
    unfold f_X12_wantSign
    rw [isg hK hM, if_pos h, cl_some, c1_okk (by decide) (by decide), if_pos (by decide), r1, cl_some]
  · intro h
    unfold f_X12_wantSign
    rw [isg hK hM, if_neg h, cl_some, c1_okk (by decide) (by decide), if_neg (by decide), fails_eq hK hM h18, cl_some, cz_0]
    rfl
