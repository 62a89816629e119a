/-! texts: steps of both runs -/
theorem c1_0 {β : Type} {k : Option β} : c1 0 k = k := c1_ok (by decide) (by decide)
theorem c1_1 {β : Type} {k : Option β} : c1 1 k = k := c1_ok (by decide) (by decide)
theorem i00 {β : Type} {a b : β} : (if (0 : Int) = 0 then a else b) = a := if_pos rfl
theorem i10 {β : Type} {a b : β} : (if (1 : Int) = 0 then a else b) = b := if_neg (by decide)
theorem n00 {β : Type} {a b : β} : (if ¬ (0 : Int) = 0 then a else b) = b := if_neg (by decide)
theorem n10 {β : Type} {a b : β} : (if ¬ (1 : Int) = 0 then a else b) = a := if_pos (by decide)
section logic
variable {σ : Type} {W : Int → Prop} {I : Mem → Prop} {T : Int → Int} {n p : Int} {Gd : σ → Prop} {QX QZ : σ → Mem → Prop}
theorem PART.go {t t1 : Tok} {JX JX1 JZ JZ1 : Mem → Prop} {gX gZ kX kZ : Mem → Option (Int × Mem)} (h : PART W I T n p Gd QX QZ t1 JX1 JZ1 kX kZ) (aX : ∀ X : Mem, CSt X T n t → JX X → ∃ Y : Mem, gX X = kX Y ∧ CSt Y T n t1 ∧ JX1 Y ∧ FrC W X Y) (aZ : ∀ Z : Mem, MSt Z T n t → Z 120 18 = 0 → JZ Z → ∃ Y : Mem, gZ Z = kZ Y ∧ MSt Y T n t1 ∧ Y 120 18 = 0 ∧ JZ1 Y ∧ FrM Z Y) : PART W I T n p Gd QX QZ t JX JZ gX gZ := by
  rcases h with ⟨t', s, h1, h2, h3, h4, h5⟩ | ⟨f, b, h1, h2, h4, h5⟩
  · refine Or.inl ⟨t', s, h1, h2, h3, fun X hC hJ => ?_, fun Z hM h18 hJ => ?_⟩
    · obtain ⟨Y, y1, y2, y3, y4⟩ := aX X hC hJ
      obtain ⟨V, v1, v2, v3, v4⟩ := h4 Y y2 y3
      exact ⟨V, by rw [y1, v1], v2, v3, y4.trans v4⟩
    · obtain ⟨Y, y1, y2, y3, y4, y5⟩ := aZ Z hM h18 hJ
      obtain ⟨V, v1, v2, v3, v4, v5⟩ := h5 Y y2 y3 y4
      exact ⟨V, by rw [y1, v1], v2, v3, v4, y5.trans v5⟩
  · refine Or.inr ⟨f, b, h1, h2, fun X hC hJ => ?_, fun Z hM h18 hJ => ?_⟩
    · obtain ⟨Y, y1, y2, y3, y4⟩ := aX X hC hJ
      obtain ⟨V, v1, v2, v3, v4, v5⟩ := h4 Y y2 y3
      exact ⟨V, by rw [y1, v1], v2, v3, v4, y4.trans v5⟩
    · obtain ⟨Y, y1, y2, y3, y4, y5⟩ := aZ Z hM h18 hJ
      obtain ⟨V, v1, v2, v3, v4⟩ := h5 Y y2 y3 y4
      exact ⟨V, by rw [y1, v1], v2, v3, y5.trans v4⟩
theorem flC_fr {X : Mem} {f b : Int} : (∀ i : Int, i ≠ 35 → flC X f b i = X i) := fun i hi => by
  unfold flC
  rw [ms_ne hi, ms_ne hi]
theorem numF_r {t : Tok} {lo hi : Int} (h : ¬ (t.k = 2 ∧ lo ≤ t.v ∧ t.v ≤ hi)) : 1 ≤ numF t lo hi ∧ numF t lo hi ≤ 7 := by
  unfold numF hereF
  split
  · rename_i g
    rw [if_neg (fun e => h ⟨g, e⟩)]
    decide
  · split <;> decide
theorem hereF_r {t : Tok} : 1 ≤ hereF t 2 ∧ hereF t 2 ≤ 7 := by
  unfold hereF
  split <;> decide
/-- a word that must stand here -/
theorem PART.word {t : Tok} {JX JZ : Mem → Prop} {gX gZ kX kZ : Mem → Option (Int × Mem)} {a q : Nat} (hw : W33 a q) (hn : n ≤ 900) (hT : TXT T n) (hK : TKt T n t) (sX : StC JX) (sZ : StM JZ) (hI : ∀ X : Mem, JX X → I X) (sI : StC I) (h : TKt T n (nx T n t.e) → t.e ≤ (nx T n t.e).b → PART W I T n p Gd QX QZ (nx T n t.e) JX JZ kX kZ)
    (hX0 : ∀ X Y : Mem, CSt X T n t → JX X → f_X8_takeWord a X = some (0, Y) → gX X = some (0, Y)) (hX1 : ∀ X Y : Mem, CSt X T n t → JX X → f_X8_takeWord a X = some (1, Y) → gX X = kX Y)
    (hZ0 : ∀ Z Y : Mem, MSt Z T n t → Z 120 18 = 0 → JZ Z → f_X12_wantWord 33 q Z = some (0, Y) → gZ Z = some (0, Y)) (hZ1 : ∀ Z Y : Mem, MSt Z T n t → Z 120 18 = 0 → JZ Z → f_X12_wantWord 33 q Z = some (1, Y) → gZ Z = kZ Y) : PART W I T n p Gd QX QZ t JX JZ gX gZ := by
  by_cases g : t33 T t = q
  · obtain ⟨k1, k2⟩ := nx_t hT hK
    refine (h k1 k2).go (fun X hC hJ => ?_) (fun Z hM h18 hJ => ?_)
    · obtain ⟨R, r1, r2, r3⟩ := tw8_y hw hT hK hC g
      exact ⟨_, hX1 X _ hC hJ r1, r2, sX _ _ hJ, FrC.a r3⟩
    · obtain ⟨R, r1, r2, r3⟩ := ww_y hw.2.1 hT hK hM g
      exact ⟨_, hZ1 Z _ hM h18 hJ r1, r2, by rw [ma_same, r3 18 (by decide)]; exact h18, sZ _ _ (fun q a _ _ => r3 q a) hJ, FrM.a r3⟩
  · exact PART.bad (hereF t 2) hereF_r hn hK hI sI (fun X hC hJ => hX0 X _ hC hJ (tw8_n hw hT hK hC g)) (fun Z hM h18 hJ => hZ0 Z _ hM h18 hJ (ww_n hw.2.1 hT hK hM h18 g))
/-- a number that is taken: the class has it in 35 8, the reference in its slot -/
theorem PART.num {t : Tok} {JX JZ JZ1 : Mem → Prop} {gX gZ kX kZ : Mem → Option (Int × Mem)} {lo hi sl : Int} (hn : n ≤ 900) (hT : TXT T n) (hK : TKt T n t) (hlo : inI lo) (hhi : inI hi) (s0 : 1760 ≤ sl) (s1 : sl < 2200) (sX : StC JX) (sZ : StM JZ1) (hI : ∀ X : Mem, JX X → I X) (sI : StC I) (hJ1 : ∀ Z : Mem, JZ Z → JZ1 (ms Z 121 sl t.v)) (h : t.k = 2 → lo ≤ t.v → t.v ≤ hi → TKt T n (nx T n t.e) → t.e ≤ (nx T n t.e).b → PART W I T n p Gd QX QZ (nx T n t.e) (fun Y => JX Y ∧ Y 35 8 = t.v) JZ1 kX kZ)
    (hX0 : ∀ X Y : Mem, CSt X T n t → JX X → f_X8_takeNumber lo hi X = some (0, Y) → gX X = some (0, Y)) (hX1 : ∀ X Y : Mem, CSt X T n t → JX X → f_X8_takeNumber lo hi X = some (1, Y) → gX X = kX Y)
    (hZ0 : ∀ Z Y : Mem, MSt Z T n t → Z 120 18 = 0 → JZ Z → f_X12_number sl lo hi Z = some (0, Y) → gZ Z = some (0, Y)) (hZ1 : ∀ Z Y : Mem, MSt Z T n t → Z 120 18 = 0 → JZ Z → f_X12_number sl lo hi Z = some (1, Y) → gZ Z = kZ Y) : PART W I T n p Gd QX QZ t JX JZ gX gZ := by
  by_cases g : t.k = 2 ∧ lo ≤ t.v ∧ t.v ≤ hi
  · obtain ⟨k1, k2⟩ := nx_t hT hK
    refine (h g.1 g.2.1 g.2.2 k1 k2).go (fun X hC hJ => ?_) (fun Z hM h18 hJ => ?_)
    · obtain ⟨R, r1, r2, r3, r4⟩ := tn8_y hT hK hC hlo hhi g
      exact ⟨_, hX1 X _ hC hJ r1, r2, ⟨sX _ _ hJ, by rw [ma_same]; exact r3⟩, ⟨fun i a _ => ma_ne a, fun q a => by rw [ma_same]; exact r4 q (by omega)⟩⟩
    · obtain ⟨R, r1, r2, r3⟩ := nm_y hT hK hM hlo hhi (by omega) s1 g
      refine ⟨_, hZ1 Z _ hM h18 hJ r1, r2, by rw [ma_same, r3 18 (by decide)]; exact h18, sZ _ _ (fun q a _ _ => by rw [r3 q a, ms_ne (by decide)]) (hJ1 Z hJ), ⟨fun i a b _ _ => by rw [ma_ne a, ms_ne b], fun q a => by rw [ma_same]; exact r3 q (by omega), fun q a => by rw [ma_ne (by decide), ms_at, if_neg (by omega)], fun q a => by rw [ma_ne (by decide), ms_ne (by decide)]⟩⟩
  · exact PART.bad (numF t lo hi) (numF_r g) hn hK hI sI (fun X hC hJ => hX0 X _ hC hJ (tn8_n hK hC hlo hhi g).1) (fun Z hM h18 hJ => hZ0 Z _ hM h18 hJ (nm_n hK hM h18 hlo hhi g))
/-- a sign at the end -/
theorem PART.sign {t : Tok} {JX JZ : Mem → Prop} {gX gZ : Mem → Option (Int × Mem)} (s : σ) (hp : p ≤ t.e) (hs : Gd s) (hn : n ≤ 900) (hT : TXT T n) (hK : TKt T n t) (sX : StC JX) (sZ : StM JZ) (hI : ∀ X : Mem, JX X → I X) (sI : StC I) (hQX : ∀ X : Mem, JX X → QX s X) (hQZ : ∀ X : Mem, JZ X → QZ s X)
    (hX : ∀ (X Y : Mem) (r : Int), r = 0 ∨ r = 1 → f_X8_takeSign X = some (r, Y) → gX X = some (r, Y)) (hZ : ∀ (Z Y : Mem) (r : Int), r = 0 ∨ r = 1 → f_X12_wantSign 59 Z = some (r, Y) → gZ Z = some (r, Y)) : PART W I T n p Gd QX QZ t JX JZ gX gZ := by
  by_cases g : t.k = 3
  · obtain ⟨k1, k2⟩ := nx_t hT hK
    refine (PART.ret (gX := fun X => some (1, X)) (gZ := fun Z => some (1, Z)) s (by omega) k1 hs (fun X hJ => ⟨rfl, hQX X hJ⟩) (fun Z hJ => ⟨rfl, hQZ Z hJ⟩)).go (JX1 := JX) (JZ1 := JZ) (fun X hC hJ => ?_) (fun Z hM h18 hJ => ?_)
    · obtain ⟨R, r1, r2, r3⟩ := (sg8 hT hK hC).1 g
      exact ⟨_, hX X _ 1 (Or.inr rfl) r1, r2, sX _ _ hJ, FrC.a r3⟩
    · obtain ⟨R, r1, r2, r3⟩ := (wsg hT hK hM h18).1 g
      exact ⟨_, hZ Z _ 1 (Or.inr rfl) r1, r2, by rw [ma_same, r3 18 (by decide)]; exact h18, sZ _ _ (fun q a _ _ => r3 q a) hJ, FrM.a r3⟩
  · exact PART.bad (hereF t 2) hereF_r hn hK hI sI (fun X hC hJ => hX X _ 0 (Or.inl rfl) ((sg8 hT hK hC).2 g)) (fun Z hM h18 hJ => hZ Z _ 0 (Or.inl rfl) ((wsg hT hK hM h18).2 g))
end logic
