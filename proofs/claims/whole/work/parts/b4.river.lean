/-! rivers: what a reader holds while it reads -/
abbrev Riv : Type := (Int → Int) × (Int → Int) × Int × Int × Int × Int × Int
def Riv.A (S : Riv) : Int → Int := S.1
def Riv.Nm (S : Riv) : Int → Int := S.2.1
def Riv.rows (S : Riv) : Int := S.2.2.1
def Riv.st (S : Riv) : Int := S.2.2.2.1
def Riv.bo (S : Riv) : Int := S.2.2.2.2.1
def Riv.po (S : Riv) : Int := S.2.2.2.2.2.1
def Riv.co (S : Riv) : Int := S.2.2.2.2.2.2
def Riv.wA (S : Riv) (a : Int → Int) : Riv := (a, S.2)
def Riv.wN (S : Riv) (a : Int → Int) : Riv := (S.1, a, S.2.2)
def Riv.wr (S : Riv) (a : Int) : Riv := (S.1, S.2.1, a, S.2.2.2)
def Riv.ws (S : Riv) (a : Int) : Riv := (S.1, S.2.1, S.2.2.1, a, S.2.2.2.2)
def Riv.wb (S : Riv) (a : Int) : Riv := (S.1, S.2.1, S.2.2.1, S.2.2.2.1, a, S.2.2.2.2.2)
def Riv.wp (S : Riv) (a : Int) : Riv := (S.1, S.2.1, S.2.2.1, S.2.2.2.1, S.2.2.2.2.1, a, S.2.2.2.2.2.2)
def Riv.wc (S : Riv) (a : Int) : Riv := (S.1, S.2.1, S.2.2.1, S.2.2.2.1, S.2.2.2.2.1, S.2.2.2.2.2.1, a)
def sbits (S : Riv) : Int := 512 * S.st + 2048 * S.bo + 262144 * S.po + 524288 * S.co
def PCR (r : Int) (S : Riv) (X : Mem) : Prop := (X 37 1 = r ∧ X 37 2 = S.rows ∧ X 37 3 = S.st ∧ X 37 4 = S.bo ∧ X 37 5 = S.po ∧ X 37 6 = S.co) ∧ RV X r S.A ∧ ∀ b : Int, 0 ≤ b → b < S.A 2 → NM (X (r + 4) b) (S.Nm b)
def PMR (S : Riv) (Z : Mem) : Prop := (Z 120 20 = S.rows ∧ Z 120 19 = sbits S) ∧ (∀ q : Int, 0 ≤ q → q < 200 → Z 121 (1760 + q) = S.A q) ∧ ∀ b : Int, 0 ≤ b → b < S.A 2 → Z 122 (20 + b) = S.Nm b
def GdR (S : Riv) : Prop := BD S.A ∧ (2 ≤ S.A 0 ∧ 2 ≤ S.A 1) ∧ (0 ≤ S.rows ∧ S.rows ≤ S.A 1) ∧ ((S.st = 0 ∨ S.st = 1) ∧ (S.bo = 0 ∨ S.bo = 1) ∧ (S.po = 0 ∨ S.po = 1) ∧ (S.co = 0 ∨ S.co = 1)) ∧ (S.st = 0 → S.A 13 = 0) ∧ (S.A 3 = 0 ∧ S.A 4 = 0 ∧ S.A 14 = 0) ∧ ∀ b : Int, 0 ≤ b → b < S.A 2 → ∃ a : Int, NM a (S.Nm b)
/-- the cells of a river r, and the reader's own -/
def WR (r : Int) (i : Int) : Prop := i = 37 ∨ (r ≤ i ∧ i ≤ r + 9)
theorem PCR.fr {r : Int} {S : Riv} {X Y : Mem} (h : PCR r S X) (e7 : Y 37 = X 37) (e : ∀ i : Int, r ≤ i → i ≤ r + 9 → Y i = X i) : PCR r S Y := by
  obtain ⟨h1, h2, h3⟩ := h
  exact ⟨by rw [e7]; exact h1, h2.fr e, fun b b0 b1 => by rw [e (r + 4) (by omega) (by omega)]; exact h3 b b0 b1⟩
theorem PMR.fr {S : Riv} {X Y : Mem} (h : PMR S X) (e0 : Y 120 20 = X 120 20) (e1 : Y 120 19 = X 120 19) (e2 : Y 121 = X 121) (e3 : Y 122 = X 122) : PMR S Y := by
  unfold PMR
  rw [e0, e1, e2, e3]
  exact h
theorem PCR.st {r : Int} {S : Riv} (hr : r ∈ RIV) : StC (PCR r S) := fun X R h => by
  have := RIV_c hr
  exact h.fr (ma_ne (by decide)) (fun i a b => ma_ne (by omega))
theorem PMR.st {S : Riv} : StM (PMR S) := fun Z R hR h => h.fr (by rw [ma_same]; exact hR 20 (by decide) (by decide) (by decide)) (by rw [ma_same]; exact hR 19 (by decide) (by decide) (by decide)) (ma_ne (by decide)) (ma_ne (by decide))
theorem RB.st {r : Int} (hr : r ∈ RIV) : StC (fun X => RB X r) := fun X R h => by
  have := RIV_c hr
  exact RB.fr h (fun i a b => ma_ne (by omega))
theorem PCR.rb {r : Int} {S : Riv} {X : Mem} (h : PCR r S X) : RB X r := fun b b0 b1 => h.2.1.2.2.2.2.2.2 b b0 b1
/-- a field of the boat, the pole, the water -/
theorem RV.fld {X : Mem} {r : Int} {A : Int → Int} {f v : Int} (h : RV X r A) (f0 : 3 ≤ f) (f1 : f ≤ 10) : RV (ms X r f v) r (up A (f + 2) v) := by
  have e : ∀ k : Int, k < 5 ∨ 12 < k → up A (f + 2) v k = A k := fun k hk => up_ne (by omega)
  have ne : ∀ i : Int, i ≠ r → ms X r f v i = X i := fun i hi => ms_ne hi
  have sc : ∀ k : Int, k ≠ 0 → X r k = A (k + 2) → ms X r f v r k = up A (f + 2) v (k + 2) := fun k hk hx => by
    rw [ms_at, up_at]
    by_cases g : k = f
    · rw [if_pos ⟨rfl, g⟩, if_pos (by omega)]
    · rw [if_neg (fun h => g h.2), if_neg (by omega)]
      exact hx
  have s0 : ∀ k : Int, k < 3 → X r k = A k → ms X r f v r k = up A (f + 2) v k := fun k hk hx => by
    rw [ms_at, if_neg (by omega), e k (by omega)]
    exact hx
  have est : ∀ d : Int, 0 ≤ d → stg (up A (f + 2) v) d = stg A d := fun d d0 => by
    unfold stg
    rw [e 13 (by omega), e (16 + d) (by omega)]
  obtain ⟨⟨a0, a1, a2, a3, a4, a5, a6, a7, a8, a9, a10⟩, h2, h3, h4, h5, h6, h7⟩ := h
  refine ⟨⟨s0 0 (by decide) a0, s0 1 (by decide) a1, s0 2 (by decide) a2, sc 3 (by decide) a3, sc 4 (by decide) a4, sc 5 (by decide) a5, sc 6 (by decide) a6, sc 7 (by decide) a7, sc 8 (by decide) a8, sc 9 (by decide) a9, sc 10 (by decide) a10⟩, fun c c0 c1 => ?_, fun c c0 c1 => ?_, fun d d0 d1 => ?_, fun b b0 b1 => ?_, fun b b0 b1 => ?_, fun b b0 b1 => ?_⟩
  · rw [ne _ (by omega), e _ (by omega)]
    exact h2 c c0 c1
  · rw [ne _ (by omega), e _ (by omega)]
    exact h3 c c0 c1
  · rw [ne _ (by omega), est d d0]
    exact h4 d d0 d1
  · rw [e 2 (by omega)] at b1
    rw [ne _ (by omega), ne _ (by omega), ne _ (by omega), ne _ (by omega), e _ (by omega), e _ (by omega), e _ (by omega), e _ (by omega)]
    exact h5 b b0 b1
  · rw [e 2 (by omega)] at b1
    rw [ne _ (by omega)]
    have := h6 b b0 b1
    unfold LE at *
    rw [e 0 (by omega), e 1 (by omega)]
    rcases this with ⟨l1, l2⟩ | ⟨l1, l2, l3, l4⟩
    · exact Or.inl ⟨l1, fun c c0 c1 => by rw [e _ (by omega)]; exact l2 c c0 c1⟩
    · exact Or.inr ⟨l1, l2, by rw [e _ (by omega)]; exact l3, fun c c0 c1 => by rw [e _ (by omega)]; exact l4 c c0 c1⟩
  · rw [ne _ (by omega), ne _ (by omega), ne _ (by omega), ne _ (by omega)]
    exact h7 b b0 b1
theorem BD.fld {A : Int → Int} {i v : Int} (h : BD A) (h4 : A 4 = 0) (i0 : 5 ≤ i) (i1 : i ≤ 12) (hv : (i = 5 → 1 ≤ v ∧ v ≤ 20) ∧ (i = 6 → 0 ≤ v ∧ v ≤ 9) ∧ (i = 7 → 1 ≤ v ∧ v ≤ 99) ∧ (i = 8 → 1 ≤ v ∧ v ≤ 99) ∧ (i = 9 → 0 ≤ v ∧ v ≤ 99) ∧ (i = 10 → 0 ≤ v ∧ v ≤ 999) ∧ (i = 11 → 0 ≤ v ∧ v ≤ 16) ∧ (i = 12 → 0 ≤ v ∧ v ≤ 16)) : BD (up A i v) := by
  have e : ∀ k : Int, k ≠ i → up A i v k = A k := fun k hk => up_ne hk
  have st : ∀ (k lo hi : Int), (i = k → lo ≤ v ∧ v ≤ hi) → lo ≤ A k ∧ A k ≤ hi → lo ≤ up A i v k ∧ up A i v k ≤ hi := fun k lo hi h1 h2 => by
    rw [up_at]
    by_cases g : k = i
    · rw [if_pos g]; exact h1 g.symm
    · rw [if_neg g]; exact h2
  obtain ⟨v5, v6, v7, v8, v9, v10, v11, v12⟩ := hv
  obtain ⟨a0, a2, a3, a4, a5, a6, a7, a8, a9, a10, a11, a12, a13, a14, as, ab, ad, ao⟩ := h
  have t6 := st 6 0 9 v6 a6
  refine ⟨by rw [e 0 (by omega), e 1 (by omega)]; exact a0, by rw [e 2 (by omega)]; exact a2, by rw [e 3 (by omega)]; exact a3, by rw [e 4 (by omega), h4]; exact ⟨Int.le_refl _, t6.1⟩, st 5 1 20 v5 a5, t6, st 7 1 99 v7 a7, st 8 1 99 v8 a8, st 9 0 99 v9 a9, st 10 0 999 v10 a10, st 11 0 16 v11 a11, st 12 0 16 v12 a12, by rw [e 13 (by omega)]; exact a13, by rw [e 14 (by omega)]; exact a14, fun d d0 d1 => by rw [e _ (by omega)]; exact as d d0 d1, fun j j0 j1 => by rw [e _ (by omega)]; exact ab j j0 j1, fun c c0 c1 => by rw [e _ (by omega)]; exact ad c c0 c1, fun c c0 c1 => by rw [e _ (by omega), e 2 (by omega)]; exact ao c c0 c1⟩
theorem GdR.fld {S : Riv} {i v : Int} (h : GdR S) (i0 : 5 ≤ i) (i1 : i ≤ 12) (hv : (i = 5 → 1 ≤ v ∧ v ≤ 20) ∧ (i = 6 → 0 ≤ v ∧ v ≤ 9) ∧ (i = 7 → 1 ≤ v ∧ v ≤ 99) ∧ (i = 8 → 1 ≤ v ∧ v ≤ 99) ∧ (i = 9 → 0 ≤ v ∧ v ≤ 99) ∧ (i = 10 → 0 ≤ v ∧ v ≤ 999) ∧ (i = 11 → 0 ≤ v ∧ v ≤ 16) ∧ (i = 12 → 0 ≤ v ∧ v ≤ 16)) : GdR (S.wA (up S.A i v)) := by
  obtain ⟨h1, h2, h3, h4, h5, ⟨h6, h7, h8⟩, h9⟩ := h
  have e : ∀ k : Int, k < 5 ∨ 12 < k → up S.A i v k = S.A k := fun k hk => up_ne (by omega)
  refine ⟨h1.fld h7 i0 i1 hv, ?_, ?_, h4, ?_, ⟨?_, ?_, ?_⟩, fun b b0 b1 => ?_⟩
  · show 2 ≤ up S.A i v 0 ∧ 2 ≤ up S.A i v 1
    rw [e 0 (by omega), e 1 (by omega)]; exact h2
  · show 0 ≤ S.rows ∧ S.rows ≤ up S.A i v 1
    rw [e 1 (by omega)]; exact h3
  · show S.st = 0 → up S.A i v 13 = 0
    rw [e 13 (by omega)]; exact h5
  · show up S.A i v 3 = 0
    rw [e 3 (by omega)]; exact h6
  · show up S.A i v 4 = 0
    rw [e 4 (by omega)]; exact h7
  · show up S.A i v 14 = 0
    rw [e 14 (by omega)]; exact h8
  · have b1 : b < up S.A i v 2 := b1
    rw [e 2 (by omega)] at b1
    exact h9 b b0 b1
theorem PCR.fld {r : Int} {S : Riv} {X : Mem} {f v : Int} (hr : r ∈ RIV) (h : PCR r S X) (f0 : 3 ≤ f) (f1 : f ≤ 10) : PCR r (S.wA (up S.A (f + 2) v)) (ms X r f v) := by
  have := RIV_c hr
  obtain ⟨h1, h2, h3⟩ := h
  refine ⟨by rw [ms_ne (by omega)]; exact h1, h2.fld f0 f1, fun b b0 b1 => ?_⟩
  have b1 : b < up S.A (f + 2) v 2 := b1
  rw [up_ne (by omega)] at b1
  rw [ms_ne (by omega)]
  exact h3 b b0 b1
theorem PMR.fld {S : Riv} {Z : Mem} {i v : Int} (h : PMR S Z) (i0 : 5 ≤ i) (i1 : i ≤ 12) : PMR (S.wA (up S.A i v)) (ms Z 121 (1760 + i) v) := by
  obtain ⟨h1, h2, h3⟩ := h
  refine ⟨by rw [ms_ne (by decide)]; exact h1, fun q q0 q1 => ?_, fun b b0 b1 => ?_⟩
  · show _ = up S.A i v q
    rw [ms_at, up_at]
    by_cases g : q = i
    · rw [if_pos ⟨rfl, by omega⟩, if_pos g]
    · rw [if_neg (by omega), if_neg g]
      exact h2 q q0 q1
  · have b1 : b < up S.A i v 2 := b1
    rw [up_ne (by omega)] at b1
    rw [ms_ne (by decide)]
    exact h3 b b0 b1
theorem ms_frC {r i k v : Int} {X : Mem} (h : WR r i) (h35 : i ≠ 35) : FrC (WR r) X (ms X i k v) := ⟨fun j _ hj => ms_ne (fun e => hj (e ▸ h)), fun q _ => by rw [ms_ne (Ne.symm h35)]⟩
theorem ms_cst {X : Mem} {T : Int → Int} {n : Int} {t : Tok} {i k v : Int} (h : CSt X T n t) (h5 : i ≠ 35) (h6 : i ≠ 36) : CSt (ms X i k v) T n t := h.fr (ms_ne (Ne.symm h6)) (fun q _ _ => by rw [ms_ne (Ne.symm h5)])
theorem ms_mst {Z : Mem} {T : Int → Int} {n : Int} {t : Tok} {i k v : Int} (h : MSt Z T n t) (h7 : i ≠ 127) (h0 : i ≠ 120 ∨ k < 11 ∨ 15 < k) : MSt (ms Z i k v) T n t := h.fr (ms_ne (Ne.symm h7)) (fun q _ _ => by rw [ms_at, if_neg (by omega)])
abbrev PRV (T : Int → Int) (n p r : Int) (t : Tok) (JX JZ : Mem → Prop) (gX gZ : Mem → Option (Int × Mem)) : Prop := PART (WR r) (fun X => RB X r) T n p GdR (PCR r) PMR t JX JZ gX gZ
/-- the end of a part: the class's sign, the reference's -/
theorem sign_X {X Y : Mem} {r : Int} (h : r = 0 ∨ r = 1) (e : f_X8_takeSign X = some (r, Y)) : (cl (f_X8_takeSign X) fun r6 X7 => cz r6 (some (r6, X7))) = some (r, Y) := by
  rw [e, cl_some, cz_ok h]
theorem sign_Z {Z Y : Mem} {r : Int} (h : r = 0 ∨ r = 1) (e : f_X12_wantSign 59 Z = some (r, Y)) : B_X12_riverPart_230 1 Z = some (r, Y) := by
  rw [B_X12_riverPart_230, c1_1, i10, e, cl_some]
  rcases h with rfl | rfl
  · rw [c1_0, i00]
  · rw [c1_1, i10]
theorem end_sign {T : Int → Int} {n p r : Int} {t : Tok} {S : Riv} (hr : r ∈ RIV) (hn : n ≤ 900) (hT : TXT T n) (hK : TKt T n t) (hp : p ≤ t.e) (hs : GdR S) : PRV T n p r t (PCR r S) (PMR S) (fun X => cl (f_X8_takeSign X) fun r6 X7 => cz r6 (some (r6, X7))) (B_X12_riverPart_230 1) :=
  PART.sign S hp hs hn hT hK (PCR.st hr) PMR.st (fun X h => h.rb) (RB.st hr) (fun X h => h) (fun X h => h) (fun X Y r h e => sign_X h e) (fun Z Y r h e => sign_Z h e)
theorem w33_all : W33 0 0 ∧ W33 1 1 ∧ W33 2 2 ∧ W33 4 3 ∧ W33 5 4 ∧ W33 6 5 ∧ W33 7 6 ∧ W33 8 7 ∧ W33 9 8 ∧ W33 10 9 ∧ W33 11 10 ∧ W33 12 11 ∧ W33 13 12 ∧ W33 14 13 ∧ W33 15 14 ∧ W33 16 15 ∧ W33 17 16 ∧ W33 18 17 ∧ W33 19 18 ∧ W33 20 19 := ⟨⟨by decide, by decide, rfl⟩, ⟨by decide, by decide, rfl⟩, ⟨by decide, by decide, rfl⟩, ⟨by decide, by decide, rfl⟩, ⟨by decide, by decide, rfl⟩, ⟨by decide, by decide, rfl⟩, ⟨by decide, by decide, rfl⟩, ⟨by decide, by decide, rfl⟩, ⟨by decide, by decide, rfl⟩, ⟨by decide, by decide, rfl⟩, ⟨by decide, by decide, rfl⟩, ⟨by decide, by decide, rfl⟩, ⟨by decide, by decide, rfl⟩, ⟨by decide, by decide, rfl⟩, ⟨by decide, by decide, rfl⟩, ⟨by decide, by decide, rfl⟩, ⟨by decide, by decide, rfl⟩, ⟨by decide, by decide, rfl⟩, ⟨by decide, by decide, rfl⟩, ⟨by decide, by decide, rfl⟩⟩
/-- pole and colour -/
theorem bits_po (S : Riv) (h : GdR S) : (ia (ishr (sbits S) 18) 1 = S.po ∧ ia (ishr (sbits S) 19) 1 = S.co ∧ ia (ishr (sbits S) 9) 1 = S.st ∧ ia (ishr (sbits S) 11) 1 = S.bo) ∧ (S.po = 0 → io (sbits S) (ishl 1 18) = sbits (S.wp 1)) ∧ (S.co = 0 → io (sbits S) (ishl 1 19) = sbits (S.wc 1)) ∧ (S.st = 0 → io (sbits S) (ishl 1 9) = sbits (S.ws 1)) ∧ (S.bo = 0 → io (sbits S) (ishl 1 11) = sbits (S.wb 1)) := by
  obtain ⟨-, -, -, ⟨h1, h2, h3, h4⟩, -⟩ := h
  unfold sbits Riv.wp Riv.wc Riv.ws Riv.wb Riv.st Riv.bo Riv.po Riv.co at *
  rcases h1 with h1 | h1 <;> rcases h2 with h2 | h2 <;> rcases h3 with h3 | h3 <;> rcases h4 with h4 | h4 <;> simp only [h1, h2, h3, h4] <;> decide +kernel
theorem sbits_r (S : Riv) (h : GdR S) : 0 ≤ sbits S ∧ sbits S ≤ 1000000 := by
  obtain ⟨-, -, -, ⟨h1, h2, h3, h4⟩, -⟩ := h
  unfold sbits
  omega
