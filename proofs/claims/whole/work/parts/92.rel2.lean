/-! the whole relation -/
/-- a STEP's two numbers -/
def cdm (d c : Int) : Prop := (d = 0 ∧ c = 6) ∨ (d = 1 ∧ c = 0) ∨ (d = 2 ∧ c = 1) ∨ (d = 3 ∧ c = 2) ∨ (d = 4 ∧ c = 3) ∨ (d = 6 ∧ c = 5) ∨ (d = 7 ∧ c = 7) ∨ (d = 8 ∧ c = 8) ∨ (d = 9 ∧ c = 49) ∨ (d = 10 ∧ c = 50) ∨ (d = 11 ∧ c = 51)
/-- a line of the class's rule u, and that of the slot A -/
def LN (X : Mem) (u : Int) (A : Int → Int) (k : Int) : Prop := cdm (X (u + 1) k) (A (200 + 4 * k)) ∧ (0 ≤ A (200 + 4 * k + 1) ∧ A (200 + 4 * k + 1) < 5) ∧
  (X (u + 1) k = 1 ∨ X (u + 1) k = 2 ∨ X (u + 1) k = 9 ∨ X (u + 1) k = 10 → X (u + 2) k = A (200 + 4 * k + 1)) ∧
  (0 ≤ A (200 + 4 * k + 2) ∧ A (200 + 4 * k + 2) ≤ 16) ∧ (X (u + 1) k ≠ 0 → X (u + 3) k = A (200 + 4 * k + 2)) ∧ (X (u + 1) k = 6 ∨ X (u + 1) k = 3 ∨ X (u + 1) k = 4 → A (200 + 4 * k + 2) ≤ 9) ∧ (X (u + 1) k = 6 → 1 ≤ A (200 + 4 * k + 2)) ∧
  (X (u + 1) k = 0 ∨ X (u + 1) k = 6 ∨ X (u + 1) k = 9 ∨ X (u + 1) k = 10 ∨ X (u + 1) k = 11 → X (u + 4) k = A (200 + 4 * k + 3) ∧ 0 ≤ A (200 + 4 * k + 3) ∧ A (200 + 4 * k + 3) < A 14) ∧ (k = 0 → A (200 + 4 * k) ≠ 6) ∧ (A (200 + 4 * k) = 6 → A (200 + 4 * k + 3) < k)
def RU (X : Mem) (u : Int) (A : Int → Int) : Prop := X u 0 = A 14 ∧ ∀ k : Int, 0 ≤ k → k < A 14 → LN X u A k
theorem RU.fr {X Y : Mem} {u : Int} {A : Int → Int} (h : RU X u A) (e : ∀ i : Int, u ≤ i → i ≤ u + 4 → Y i = X i) : RU Y u A := by
  unfold RU LN at *
  rw [e u (by omega) (by omega), e (u + 1) (by omega) (by omega), e (u + 2) (by omega) (by omega), e (u + 3) (by omega) (by omega), e (u + 4) (by omega) (by omega)]
  exact h
/-- a NAME by five bits a letter, and by eight -/
def c5 (L : List Int) : Int := L.foldl (fun v x => v * 32 + (x - 97 + 1)) 0
def c8 (L : List Int) : Int := L.foldl (fun v x => v * 256 + x) 0
def NM (a b : Int) : Prop := ∃ L : List Int, 1 ≤ L.length ∧ L.length ≤ 8 ∧ (∀ x ∈ L, 97 ≤ x ∧ x ≤ 122) ∧ a = c5 L ∧ b = c8 L
/-- what is thought -/
def TH (P A : Int → Int) : Prop := (∀ q : Int, 0 ≤ q → q < 32 → 0 ≤ P q ∧ P q ≤ 1000000) ∧ sm P 32 = 1000000 ∧ (∀ q : Int, NS A ≤ q → q < 32 → P q = 0) ∧ (∀ q : Int, 0 ≤ q → q < NS A → A (168 + q) = P q)
/-- a state of the class and a slot -/
def SS (X : Mem) (s : Int) (A Nm : Int → Int) : Prop := X s 3 = A 3 ∧ X s 4 = A 4 ∧ RV X (X s 0) A ∧ RU X (X s 1) A ∧ TH (X (s + 16)) A ∧ BD A ∧ ∀ b : Int, 0 ≤ b → b < A 2 → NM (X (X s 0 + 4) b) (Nm b)
theorem SS.fr {X Y : Mem} {s : Int} {A Nm : Int → Int} (h : SS X s A Nm) (e0 : Y s = X s) (e1 : ∀ i : Int, X s 0 ≤ i → i ≤ X s 0 + 9 → Y i = X i) (e2 : ∀ i : Int, X s 1 ≤ i → i ≤ X s 1 + 4 → Y i = X i) (e3 : Y (s + 16) = X (s + 16)) : SS Y s A Nm := by
  obtain ⟨h1, h2, h3, h4, h5, h6, h7⟩ := h
  refine ⟨by rw [e0]; exact h1, by rw [e0]; exact h2, ?_, ?_, by rw [e3]; exact h5, h6, ?_⟩
  · rw [e0]
    exact h3.fr e1
  · rw [e0]
    exact h4.fr e2
  · rw [e0, e1 _ (by omega) (by omega)]
    exact h7
/-- who points where -/
def PT2 (X : Mem) : Prop := ((X 2 0 = 3 ∧ X 0 3 = 20) ∨ (X 2 0 = 20 ∧ X 0 3 = 3)) ∧ ((X 2 1 = 13 ∧ X 0 4 = 30) ∨ (X 2 1 = 30 ∧ X 0 4 = 13)) ∧ (X 69 0 = 70 ∧ X 69 1 = 80) ∧ (X 86 0 = 87 ∧ X 86 1 = 97) ∧ (X 103 0 = 104 ∧ X 103 1 = 114)
theorem PT2.fr {X Y : Mem} (h : PT2 X) (e0 : Y 0 3 = X 0 3) (e1 : Y 0 4 = X 0 4) (e2 : Y 2 0 = X 2 0) (e3 : Y 2 1 = X 2 1) (e4 : Y 69 = X 69) (e5 : Y 86 = X 86) (e6 : Y 103 = X 103) : PT2 Y := by
  unfold PT2
  rw [e0, e1, e2, e3, e4, e5, e6]
  exact h
theorem PT2.riv {X : Mem} (h : PT2 X) : X 2 0 ∈ RIV ∧ X 0 3 ∈ RIV := by
  rcases h.1 with ⟨a, b⟩ | ⟨a, b⟩ <;> rw [a, b] <;> decide
theorem PT2.rul {X : Mem} (h : PT2 X) : X 2 1 ∈ RUL ∧ X 0 4 ∈ RUL := by
  rcases h.2.1 with ⟨a, b⟩ | ⟨a, b⟩ <;> rw [a, b] <;> decide
/-- a spare river's rows stay small -/
def RB (X : Mem) (r : Int) : Prop := ∀ b : Int, 0 ≤ b → b < 5 → (0 ≤ X (r + 5) b ∧ X (r + 5) b ≤ 16) ∧ (0 ≤ X (r + 6) b ∧ X (r + 6) b ≤ 16) ∧ (0 ≤ X (r + 7) b ∧ X (r + 7) b ≤ 16) ∧ (0 ≤ X (r + 8) b ∧ X (r + 8) b ≤ 16)
theorem RB.fr {X Y : Mem} {r : Int} (h : RB X r) (e : ∀ i : Int, r ≤ i → i ≤ r + 9 → Y i = X i) : RB Y r := by
  unfold RB at *
  rw [e (r + 5) (by omega) (by omega), e (r + 6) (by omega) (by omega), e (r + 7) (by omega) (by omega), e (r + 8) (by omega) (by omega)]
  exact h
/-! a slot is what it holds from 0 to 439 -/
def EQ4 (A B : Int → Int) : Prop := ∀ k : Int, 0 ≤ k → k < 440 → B k = A k
theorem BD.ext {A B : Int → Int} (h : BD A) (e : EQ4 A B) : BD B := by
  obtain ⟨h0, h2, h3, h4, h5, h6, h7, h8, h9, h10, h11, h12, h13, h14, hs, hb, hd, ho⟩ := h
  unfold BD
  rw [e 0 (by decide) (by decide), e 1 (by decide) (by decide), e 2 (by decide) (by decide), e 3 (by decide) (by decide), e 4 (by decide) (by decide), e 5 (by decide) (by decide), e 6 (by decide) (by decide), e 7 (by decide) (by decide), e 8 (by decide) (by decide), e 9 (by decide) (by decide), e 10 (by decide) (by decide), e 11 (by decide) (by decide), e 12 (by decide) (by decide), e 13 (by decide) (by decide), e 14 (by decide) (by decide)]
  refine ⟨h0, h2, h3, h4, h5, h6, h7, h8, h9, h10, h11, h12, h13, h14, fun d a b => ?_, fun j a b => ?_, fun c a b => ?_, fun c a b => ?_⟩
  · rw [e _ (by omega) (by omega)]; exact hs d a b
  · rw [e _ (by omega) (by omega)]; exact hb j a b
  · rw [e _ (by omega) (by omega)]; exact hd c a b
  · rw [e _ (by omega) (by omega)]; exact ho c a b
theorem stg.ext {A B : Int → Int} (h : BD A) (e : EQ4 A B) {d : Int} (hd : 0 ≤ d) : stg B d = stg A d := by
  obtain ⟨-, -, -, -, -, -, -, -, -, -, -, -, h13, -⟩ := h
  unfold stg
  rw [e 13 (by decide) (by decide)]
  by_cases g : d < A 13
  · rw [if_pos g, if_pos g, e _ (by omega) (by omega)]
  · rw [if_neg g, if_neg g]
theorem NS.ext {A B : Int → Int} (e : EQ4 A B) : NS B = NS A := by
  unfold NS
  rw [e 2 (by decide) (by decide)]
theorem LE.ext {A B : Int → Int} (hB : BD A) (e : EQ4 A B) {b l : Int} (h : LE A b l) : LE B b l := by
  have hc := BD_cells hB
  unfold LE at *
  rw [e 0 (by decide) (by decide), e 1 (by decide) (by decide)]
  rcases h with ⟨h1, h2⟩ | ⟨h1, h2, h3, h4⟩
  · refine Or.inl ⟨h1, fun c a b => ?_⟩
    rw [e _ (by omega) (by omega)]
    exact h2 c a b
  · refine Or.inr ⟨h1, h2, ?_, fun c a b => ?_⟩
    · rw [e _ (by omega) (by omega)]
      exact h3
    · rw [e _ (by omega) (by omega)]
      exact h4 c a b
theorem RV.ext {X : Mem} {r : Int} {A B : Int → Int} (h : RV X r A) (hB : BD A) (e : EQ4 A B) : RV X r B := by
  have hB2 := hB.2.1
  obtain ⟨h1, h2, h3, h4, h5, h6, h7⟩ := h
  unfold RV
  rw [e 0 (by decide) (by decide), e 1 (by decide) (by decide), e 2 (by decide) (by decide), e 5 (by decide) (by decide), e 6 (by decide) (by decide), e 7 (by decide) (by decide), e 8 (by decide) (by decide), e 9 (by decide) (by decide), e 10 (by decide) (by decide), e 11 (by decide) (by decide), e 12 (by decide) (by decide)]
  refine ⟨h1, fun c a b => ?_, fun c a b => ?_, fun d a b => ?_, fun c a b => ?_, fun c a b => ?_, h7⟩
  · rw [e _ (by omega) (by omega)]; exact h2 c a b
  · rw [e _ (by omega) (by omega)]; exact h3 c a b
  · rw [stg.ext hB e a]; exact h4 d a b
  · rw [e _ (by omega) (by omega), e _ (by omega) (by omega), e _ (by omega) (by omega), e _ (by omega) (by omega)]; exact h5 c a b
  · exact LE.ext hB e (h6 c a b)
theorem RU.ext {X : Mem} {u : Int} {A B : Int → Int} (h : RU X u A) (hB : BD A) (e : EQ4 A B) : RU X u B := by
  obtain ⟨-, -, -, -, -, -, -, -, -, -, -, -, -, h14, -⟩ := hB
  obtain ⟨h1, h2⟩ := h
  unfold RU
  rw [e 14 (by decide) (by decide)]
  refine ⟨h1, fun k a b => ?_⟩
  have h3 := h2 k a b
  unfold LN at *
  rw [e 14 (by decide) (by decide), e (200 + 4 * k) (by omega) (by omega), e (200 + 4 * k + 1) (by omega) (by omega), e (200 + 4 * k + 2) (by omega) (by omega), e (200 + 4 * k + 3) (by omega) (by omega)]
  exact h3
theorem TH.ext {P A B : Int → Int} (h : TH P A) (hB : BD A) (e : EQ4 A B) : TH P B := by
  obtain ⟨h1, h2, h3, h4⟩ := h
  have hN := NS_r hB.2.1
  unfold TH
  rw [NS.ext e]
  refine ⟨h1, h2, h3, fun q a b => ?_⟩
  rw [e _ (by omega) (by omega)]
  exact h4 q a b
theorem SS.ext {X : Mem} {s : Int} {A B Nm Nm' : Int → Int} (h : SS X s A Nm) (e : EQ4 A B) (en : ∀ b : Int, 0 ≤ b → b < 5 → Nm' b = Nm b) : SS X s B Nm' := by
  obtain ⟨h1, h2, h3, h4, h5, h6, h7⟩ := h
  have hB2 := h6.2.1
  refine ⟨by rw [e 3 (by decide) (by decide)]; exact h1, by rw [e 4 (by decide) (by decide)]; exact h2, h3.ext h6 e, h4.ext h6 e, h5.ext h6 e, h6.ext e, fun b a c => ?_⟩
  rw [e 2 (by decide) (by decide)] at c
  rw [en b a (by omega)]
  exact h7 b a c
/-- the MARKS -/
def RM (X : Mem) : Prop := (0 ≤ X 0 15 ∧ X 0 15 ≤ 3 ∧ X 120 53 = X 0 15) ∧ ∀ j : Int, 1 ≤ j → j ≤ X 0 15 → SS X (52 + 17 * j) (fun k => X 121 (440 * j + k)) (fun b => X 122 (5 * j + b)) ∧ X 121 (440 * j + 3) ≤ 99
theorem PT2.mk {X : Mem} (h : PT2 X) {j : Int} (j0 : 1 ≤ j) (j1 : j ≤ 3) : X (52 + 17 * j) 0 = 53 + 17 * j ∧ X (52 + 17 * j) 1 = 63 + 17 * j := by
  obtain ⟨-, -, h1, h2, h3⟩ := h
  rcases show j = 1 ∨ j = 2 ∨ j = 3 by omega with rfl | rfl | rfl
  · exact h1
  · exact h2
  · exact h3
theorem RM.fr {X Y : Mem} (hp : PT2 X) (h : RM X) (e0 : Y 0 15 = X 0 15) (e1 : Y 120 53 = X 120 53) (e2 : ∀ k : Int, 440 ≤ k → Y 121 k = X 121 k) (e3 : ∀ k : Int, 5 ≤ k → Y 122 k = X 122 k) (e4 : ∀ i : Int, 69 ≤ i → i < 120 → Y i = X i) : RM Y := by
  obtain ⟨⟨h1, h2, h3⟩, h4⟩ := h
  refine ⟨by rw [e0, e1]; exact ⟨h1, h2, h3⟩, fun j j0 j1 => ?_⟩
  rw [e0] at j1
  obtain ⟨g1, g2⟩ := h4 j j0 j1
  obtain ⟨p1, p2⟩ := hp.mk j0 (by omega)
  refine ⟨?_, by rw [e2 _ (by omega)]; exact g2⟩
  refine (g1.fr (Y := Y) (e4 _ (by omega) (by omega)) (fun i a b => e4 i (by omega) (by omega)) (fun i a b => e4 i (by omega) (by omega)) (e4 _ (by omega) (by omega))).ext (fun k a b => ?_) (fun b a c => ?_)
  · exact e2 _ (by omega)
  · exact e3 _ (by omega)
/-- the way kept -/
def RK (X : Mem) : Prop := (0 ≤ X 42 7 ∧ X 42 7 ≤ 60 ∧ X 120 36 = X 42 7) ∧ ∀ k : Int, 0 ≤ k → k < X 42 7 → inI (X 48 k) ∧ X 135 k = X 48 k
theorem RK.fr {X Y : Mem} (h : RK X) (e0 : Y 42 7 = X 42 7) (e1 : Y 120 36 = X 120 36) (e2 : Y 48 = X 48) (e3 : Y 135 = X 135) : RK Y := by
  unfold RK
  rw [e0, e1, e2, e3]
  exact h
/-- the latest play -/
def RQ (X : Mem) : Prop := (X 0 14 = 0 ∨ X 0 14 = 1) ∧ X 120 52 = X 0 14 ∧ (X 0 14 = 1 → ∀ k : Int, 0 ≤ k → k < 7 → inI (X 60 k) ∧ X 139 k = X 60 k)
theorem RQ.fr {X Y : Mem} (h : RQ X) (e0 : Y 0 14 = X 0 14) (e1 : Y 120 52 = X 120 52) (e2 : Y 60 = X 60) (e3 : Y 139 = X 139) : RQ Y := by
  unfold RQ
  rw [e0, e1, e2, e3]
  exact h
/-- rows for weighing -/
def RW (X : Mem) : Prop := (∀ q : Int, q < 0 ∨ 32 ≤ q → X 41 q = 0) ∧ (∀ q : Int, 0 ≤ q → q < 32 → 0 ≤ X 130 q ∧ X 130 q ≤ 2000000000000)
theorem RW.fr {X Y : Mem} (h : RW X) (e0 : Y 41 = X 41) (e1 : Y 130 = X 130) : RW Y := by
  unfold RW
  rw [e0, e1]
  exact h
/-- what is left of loops' turns -/
def RTu (cn : Int) (X : Mem) : Prop := ∀ o : Int, 0 ≤ o → o < 60 → (-(3000000 * cn) ≤ X 58 o ∧ X 58 o ≤ 9) ∧ X 138 o = max 0 (X 58 o - 1)
theorem RTu.fr {cn : Int} {X Y : Mem} (h : RTu cn X) (e0 : Y 58 = X 58) (e1 : Y 138 = X 138) : RTu cn Y := by
  unfold RTu
  rw [e0, e1]
  exact h
/-! ways: what a fixed point is -/
def FAR : Int := 100000000
def okc (A : Int → Int) (nd c x : Int) : Prop := nd ≤ A (48 + c) - tk A c x
/-- open with A gone -/
def opn (A : Int → Int) (nd a c : Int) : Prop := okc A nd c (NS A - 1) ∨ (okc A nd c 0 ∧ ia (ishr a (A (108 + c))) 1 = 1)
def dxs (h : Int) : Int := if h = 0 ∨ h = 1 ∨ h = 7 then 1 else if 3 ≤ h ∧ h ≤ 5 then -1 else 0
def dys (h : Int) : Int := if 1 ≤ h ∧ h ≤ 3 then 1 else if 5 ≤ h then -1 else 0
/-- the cell next to one by a heading -/
def ld (A : Int → Int) (c h : Int) : Int := if (0 ≤ c % A 0 + dxs h ∧ c % A 0 + dxs h < A 0) ∧ (0 ≤ c / A 0 + dys h ∧ c / A 0 + dys h < A 1) then A 0 * (c / A 0 + dys h) + (c % A 0 + dxs h) else -1
def stp (A : Int → Int) (h : Int) : Int := if h % 2 = 0 then A 7 else A 8
def dhh (b h : Int) : Int := min (if b ≤ h then h - b else b - h) (8 - (if b ≤ h then h - b else b - h))
def trn (A : Int → Int) (b h : Int) : Int := if b = 8 then 0 else A 9 * dhh b h
def FIX (A : Int → Int) (nd a to : Int) (V : Int → Int → Int) : Prop := ∀ c : Int, 0 ≤ c → c < A 0 * A 1 → ∀ h : Int, 0 ≤ h → h < 9 → (0 ≤ V c h ∧ V c h ≤ FAR) ∧ (opn A nd a c → c = to → V c h = 0) ∧ (¬ opn A nd a c → V c h = FAR) ∧
  (opn A nd a c → c ≠ to → (∀ g : Int, 0 ≤ g → g < 8 → ld A c g ≠ -1 → opn A nd a (ld A c g) → V (ld A c g) g ≠ FAR → V c h ≤ stp A g + trn A h g + V (ld A c g) g) ∧
    (V c h = FAR ∨ ∃ g : Int, 0 ≤ g ∧ g < 8 ∧ ld A c g ≠ -1 ∧ opn A nd a (ld A c g) ∧ V (ld A c g) g ≠ FAR ∧ V c h = stp A g + trn A h g + V (ld A c g) g))
/-- two slots of one river -/
def EQR (A B : Int → Int) : Prop := ∀ k : Int, (0 ≤ k ∧ k < 3) ∨ (5 ≤ k ∧ k < 14) ∨ (15 ≤ k ∧ k < 168) → B k = A k
theorem tk.exr {A B : Int → Int} (h : BD A) (e : EQR A B) {c x : Int} (c0 : 0 ≤ c) (c1 : c < 60) : tk B c x = tk A c x := by
  obtain ⟨-, h2, -, -, -, -, -, -, -, -, -, -, -, -, -, -, -, ho⟩ := h
  have ho := ho c c0 c1
  unfold tk
  rw [e (108 + c) (by omega)]
  split
  · rfl
  · split
    · rw [e _ (by omega)]
    · rfl
theorem NS.exr {A B : Int → Int} (e : EQR A B) : NS B = NS A := by
  unfold NS
  rw [e 2 (by omega)]
theorem opn.exr {A B : Int → Int} (h : BD A) (e : EQR A B) {nd a c : Int} (c0 : 0 ≤ c) (c1 : c < 60) : opn B nd a c ↔ opn A nd a c := by
  unfold opn okc
  rw [NS.exr e, tk.exr h e c0 c1, tk.exr h e c0 c1, e (48 + c) (by omega), e (108 + c) (by omega)]
theorem ld.exr {A B : Int → Int} (e : EQR A B) {c h : Int} : ld B c h = ld A c h := by
  unfold ld
  rw [e 0 (by omega), e 1 (by omega)]
theorem ld_r {A : Int → Int} {c h : Int} (hB : BD A) (hn : ld A c h ≠ -1) : 0 ≤ ld A c h ∧ ld A c h < A 0 * A 1 := by
  unfold ld at *
  split at hn
  · rename_i g
    rw [if_pos g]
    generalize c % A 0 + dxs h = x at *
    generalize c / A 0 + dys h = y at *
    have h1 : A 0 * y ≤ A 0 * (A 1 - 1) := Int.mul_le_mul_of_nonneg_left (by omega) (by omega)
    have h2 : A 0 * (A 1 - 1) = A 0 * A 1 - A 0 := by rw [Int.mul_sub, Int.mul_one]
    have h3 : 0 ≤ A 0 * y := Int.mul_nonneg (by omega) (by omega)
    omega
  · exact absurd rfl hn
theorem FIX.exr {A B : Int → Int} (h : BD A) (e : EQR A B) {nd a to : Int} {V : Int → Int → Int} (hF : FIX A nd a to V) : FIX B nd a to V := by
  have hc := BD_cells h
  unfold FIX at *
  intro c c0 c1 hd h0 h1
  rw [e 0 (by omega), e 1 (by omega)] at c1
  obtain ⟨f1, f2, f3, f4⟩ := hF c c0 c1 hd h0 h1
  have es : ∀ g : Int, stp B g = stp A g := fun g => by unfold stp; rw [e 7 (by omega), e 8 (by omega)]
  have et : ∀ b g : Int, trn B b g = trn A b g := fun b g => by unfold trn; rw [e 9 (by omega)]
  rw [opn.exr h e c0 (by omega)]
  refine ⟨f1, f2, f3, fun a1 a2 => ?_⟩
  obtain ⟨f5, f6⟩ := f4 a1 a2
  refine ⟨fun g g0 g1 hn ho hV => ?_, ?_⟩
  · rw [ld.exr e] at hn ho hV ⊢
    have hr := ld_r h hn
    rw [opn.exr h e hr.1 (by omega)] at ho
    rw [es, et]
    exact f5 g g0 g1 hn ho hV
  · rcases f6 with f6 | ⟨g, g0, g1, hn, ho, hV, hE⟩
    · exact Or.inl f6
    · have hr := ld_r h hn
      refine Or.inr ⟨g, g0, g1, ?_⟩
      rw [ld.exr e, opn.exr h e hr.1 (by omega), es, et]
      exact ⟨hn, ho, hV, hE⟩
/-- what soonest with A gone comes to, -1 without a way -/
def FEW (A : Int → Int) (nd f to a v : Int) : Prop := ∃ V : Int → Int → Int, FIX A nd a to V ∧ ((opn A nd a f ∧ V f 8 < FAR ∧ v = V f 8) ∨ (¬ (opn A nd a f ∧ V f 8 < FAR) ∧ v = -1))
theorem FEW.exr {A B : Int → Int} (h : BD A) (e : EQR A B) {nd f to a v : Int} (f0 : 0 ≤ f) (f1 : f < 60) (hF : FEW A nd f to a v) : FEW B nd f to a v := by
  obtain ⟨V, h1, h2⟩ := hF
  refine ⟨V, h1.exr h e, ?_⟩
  rw [opn.exr h e f0 f1]
  exact h2
/-- what the reference keeps of the latest search -/
def CK (cn : Int) (X : Mem) : Prop := (0 ≤ X 120 22 ∧ X 120 22 ≤ cn) ∧ (inI (X 120 31) ∧ inI (X 120 32) ∧ inI (X 120 33) ∧ (0 ≤ X 120 34 ∧ X 120 34 ≤ X 120 22)) ∧
  (X 120 34 = X 120 22 → X 120 31 ≠ -1 → (0 ≤ X 120 31 ∧ X 120 31 < X 121 0 * X 121 1) ∧ (0 ≤ X 120 32 ∧ X 120 32 < X 121 0 * X 121 1) ∧ ∀ a : Int, 0 ≤ a → a < NS (X 121) → FEW (X 121) (X 120 33) (X 120 31) (X 120 32) a (X 134 a))
theorem CK.fr {cn : Int} {X Y : Mem} (hB : BD (X 121)) (h : CK cn X) (e1 : Y 120 22 = X 120 22) (e2 : Y 120 31 = X 120 31) (e3 : Y 120 32 = X 120 32) (e4 : Y 120 33 = X 120 33) (e5 : Y 120 34 = X 120 34) (e6 : Y 134 = X 134) (e7 : EQR (X 121) (Y 121)) : CK cn Y := by
  have hc := BD_cells hB
  unfold CK
  rw [e1, e2, e3, e4, e5, e6, NS.exr e7, e7 0 (by omega), e7 1 (by omega)]
  refine ⟨h.1, h.2.1, fun a b => ?_⟩
  obtain ⟨g1, g2, g3⟩ := h.2.2 a b
  exact ⟨g1, g2, fun x x0 x1 => (g3 x x0 x1).exr hB e7 g1.1 (by omega)⟩
/-- all but the answers told: status, top, bottom -/
def RZ (cn : Int) (X : Mem) : Prop := PT2 X ∧ SS X 2 (X 121) (X 122) ∧ X 121 3 ≤ 99 ∧ RB X (X 0 3) ∧ RM X ∧ RT X ∧ RF X ∧ RX X ∧ RK X ∧ RQ X ∧ RW X ∧ RTu cn X ∧ CK cn X
def REL (cn : Int) (X : Mem) : Prop := RS X ∧ RZ cn X
/-- what no part of the relation speaks of -/
def SCR (i k : Int) : Prop := (i = 35 ∧ k ≠ 1 ∧ k ≠ 9 ∧ k ≠ 10) ∨ (37 ≤ i ∧ i ≤ 40) ∨ (i = 42 ∧ k ≠ 7) ∨ (43 ≤ i ∧ i ≤ 47) ∨ (49 ≤ i ∧ i ≤ 57) ∨ i = 59 ∨ (i = 120 ∧ ((11 ≤ k ∧ k ≤ 15) ∨ (18 ≤ k ∧ k ≤ 20) ∨ k = 24 ∨ k = 25 ∨ (39 ≤ k ∧ k ≤ 49))) ∨ (127 ≤ i ∧ i ≤ 129) ∨ (131 ≤ i ∧ i ≤ 133) ∨ i = 136 ∨ i = 137
def ANS (i k : Int) : Prop := (i = 0 ∧ 16 ≤ k ∧ k ≤ 18) ∨ (i = 120 ∧ 2 ≤ k ∧ k ≤ 4)
theorem RT.fr {X Y : Mem} (h : RT X) (e : ∀ i : Int, (61 ≤ i ∧ i ≤ 68) ∨ (123 ≤ i ∧ i ≤ 125) → Y i = X i) : RT Y := by
  intro t t0 t1
  unfold RT1
  rw [e (61 + 2 * t) (by omega), e 123 (by omega), e 124 (by omega), e 125 (by omega), e (62 + 2 * t) (by omega)]
  exact h t t0 t1
theorem RF.fr {X Y : Mem} (h : RF X) (e0 : Y 35 1 = X 35 1) (e1 : Y 120 10 = X 120 10) (e2 : Y 36 = X 36) (e3 : Y 126 = X 126) : RF Y := by
  unfold RF
  rw [e0, e1, e2, e3]
  exact h
theorem RX.fr {X Y : Mem} (h : RX X) (e0 : Y 35 9 = X 35 9) (e1 : Y 120 16 = X 120 16) (e2 : Y 35 10 = X 35 10) (e3 : Y 120 17 = X 120 17) : RX Y := by
  unfold RX
  rw [e0, e1, e2, e3]
  exact h
theorem RS.fr {X Y : Mem} (h : RS X) (e : ∀ i k : Int, ANS i k → Y i k = X i k) : RS Y := by
  unfold RS
  rw [e 0 16 (by unfold ANS; omega), e 0 17 (by unfold ANS; omega), e 0 18 (by unfold ANS; omega), e 120 2 (by unfold ANS; omega), e 120 3 (by unfold ANS; omega), e 120 4 (by unfold ANS; omega)]
  exact h
theorem PT2.r {X : Mem} (h : PT2 X) : (X 2 0 = 3 ∨ X 2 0 = 20) ∧ (X 0 3 = 3 ∨ X 0 3 = 20) ∧ (X 2 1 = 13 ∨ X 2 1 = 30) ∧ (X 0 4 = 13 ∨ X 0 4 = 30) := by
  obtain ⟨h1, h2, -⟩ := h
  omega
theorem RZ.fr {cn : Int} {X Y : Mem} (h : RZ cn X) (e : ∀ i k : Int, ¬ SCR i k → ¬ ANS i k → Y i k = X i k) : RZ cn Y := by
  have e0 : ∀ i : Int, (1 ≤ i ∧ i ≤ 34) ∨ i = 36 ∨ i = 41 ∨ i = 48 ∨ i = 58 ∨ (60 ≤ i ∧ i ≤ 119) ∨ (121 ≤ i ∧ i ≤ 126) ∨ i = 130 ∨ i = 134 ∨ i = 135 ∨ i = 138 ∨ i = 139 → Y i = X i := fun i hi => funext fun k => e i k (by unfold SCR; omega) (by unfold ANS; omega)
  have eC : ∀ k : Int, k ≤ 15 ∨ 19 ≤ k → Y 0 k = X 0 k := fun k hk => e 0 k (by unfold SCR; omega) (by unfold ANS; omega)
  have eM : ∀ k : Int, k = 10 ∨ k = 16 ∨ k = 17 ∨ k = 22 ∨ (26 ≤ k ∧ k ≤ 38) ∨ 50 ≤ k → Y 120 k = X 120 k := fun k hk => e 120 k (by unfold SCR; omega) (by unfold ANS; omega)
  have eT : ∀ k : Int, k = 1 ∨ k = 9 ∨ k = 10 → Y 35 k = X 35 k := fun k hk => e 35 k (by unfold SCR; omega) (by unfold ANS; omega)
  obtain ⟨h1, h2, h3, h4, h5, h6, h7, h8, h9, h10, h11, h12, h13⟩ := h
  have hp := h1.r
  have e121 := e0 121 (by omega)
  have e122 := e0 122 (by omega)
  refine ⟨?_, ?_, ?_, ?_, ?_, ?_, ?_, ?_, ?_, ?_, ?_, ?_, ?_⟩
  · exact h1.fr (eC 3 (by omega)) (eC 4 (by omega)) (by rw [e0 2 (by omega)]) (by rw [e0 2 (by omega)]) (e0 69 (by omega)) (e0 86 (by omega)) (e0 103 (by omega))
  · rw [e121, e122]
    exact h2.fr (e0 2 (by omega)) (fun i a b => e0 i (by omega)) (fun i a b => e0 i (by omega)) (e0 18 (by omega))
  · rw [e121]
    exact h3
  · rw [eC 3 (by omega)]
    exact h4.fr (fun i a b => e0 i (by omega))
  · exact RM.fr h1 h5 (eC 15 (by omega)) (eM 53 (by omega)) (fun k _ => by rw [e121]) (fun k _ => by rw [e122]) (fun i a b => e0 i (by omega))
  · exact h6.fr (fun i hi => e0 i (by omega))
  · exact h7.fr (eT 1 (by omega)) (eM 10 (by omega)) (e0 36 (by omega)) (e0 126 (by omega))
  · exact h8.fr (eT 9 (by omega)) (eM 16 (by omega)) (eT 10 (by omega)) (eM 17 (by omega))
  · exact h9.fr (e 42 7 (by unfold SCR; omega) (by unfold ANS; omega)) (eM 36 (by omega)) (e0 48 (by omega)) (e0 135 (by omega))
  · exact h10.fr (eC 14 (by omega)) (eM 52 (by omega)) (e0 60 (by omega)) (e0 139 (by omega))
  · exact h11.fr (e0 41 (by omega)) (e0 130 (by omega))
  · exact h12.fr (e0 58 (by omega)) (e0 138 (by omega))
  · exact CK.fr h2.2.2.2.2.2.1 h13 (eM 22 (by omega)) (eM 31 (by omega)) (eM 32 (by omega)) (eM 33 (by omega)) (eM 34 (by omega)) (e0 134 (by omega)) (by rw [e121]; exact fun k _ => rfl)
theorem RZ.up {cn : Int} {X : Mem} (h : RZ cn X) : RZ (cn + 1) X := by
  obtain ⟨h1, h2, h3, h4, h5, h6, h7, h8, h9, h10, h11, h12, h13⟩ := h
  refine ⟨h1, h2, h3, h4, h5, h6, h7, h8, h9, h10, h11, fun o a b => ?_, ?_, h13.2⟩
  · have := h12 o a b
    omega
  · have := h13.1
    omega
theorem REL.up {cn : Int} {X : Mem} (h : REL cn X) : REL (cn + 1) X := ⟨h.1, h.2.up⟩
