/-! the class's sums over sets within sets -/
def dotn (f : Int → Int) (w : Int → Int) : Nat → Int
  | 0 => 0
  | n + 1 => dotn f w n + f n * w n
theorem dotn_ext {f g w : Int → Int} : ∀ n : Nat, (∀ i : Int, 0 ≤ i → i < n → f i = g i) → dotn f w n = dotn g w n
  | 0, _ => rfl
  | n + 1, h => by
    show dotn f w n + f n * w n = dotn g w n + g n * w n
    rw [dotn_ext n (fun i a b => h i a (by omega)), h n (by omega) (by omega)]
theorem dotn_add {f g w : Int → Int} : ∀ n : Nat, dotn (fun i => f i + g i) w n = dotn f w n + dotn g w n
  | 0 => rfl
  | n + 1 => by
    show dotn (fun i => f i + g i) w n + (f n + g n) * w n = dotn f w n + f n * w n + (dotn g w n + g n * w n)
    rw [dotn_add n, Int.add_mul]
    omega
theorem dotn_unit {w : Int → Int} {s : Int} (s0 : 0 ≤ s) : ∀ n : Nat, dotn (fun i => if i = s then 1 else 0) w n = if s < n then w s else 0
  | 0 => by
    rw [if_neg (by omega)]
    rfl
  | n + 1 => by
    show dotn (fun i => if i = s then 1 else 0) w n + (if (n : Int) = s then 1 else 0) * w n = _
    rw [dotn_unit s0 n]
    by_cases e : (n : Int) = s
    · rw [if_pos e, if_neg (by omega), if_pos (by omega), Int.one_mul, Int.zero_add, e]
    · rw [if_neg e, Int.zero_mul, Int.add_zero]
      by_cases e2 : s < n
      · rw [if_pos e2, if_pos (by omega)]
      · rw [if_neg e2, if_neg (by omega)]
theorem dotn_ind {q : Int → Bool} {w : Int → Int} : ∀ n : Nat, dotn (fun i => if q i = true then 1 else 0) w n = sg q w n
  | 0 => rfl
  | n + 1 => by
    show dotn (fun i => if q i = true then 1 else 0) w n + (if q n = true then 1 else 0) * w n = sg q w n + if q n = true then w n else 0
    rw [dotn_ind n]
    split
    · rw [Int.one_mul]
    · rw [Int.zero_mul]
/-- how often each set is counted after so many bits -/
def czf : Nat → Int → Int → Int
  | 0, s => fun i => if i = s then 1 else 0
  | j + 1, s => fun i => if ia s (ishl 1 j) = 0 then czf j s i else czf j s i + czf j (ix s (ishl 1 j)) i
/-- one bit of the class's pass over the row -/
def zs (S : Int → Int) (b s : Int) : Int := if ia s b = 0 then S s else S s + S (ix s b)
theorem bit_drop : ∀ (s : Fin 32) (j : Fin 5), ia (s.val : Int) (ishl 1 (j.val : Int)) ≠ 0 → 0 ≤ ix (s.val : Int) (ishl 1 (j.val : Int)) ∧ ix (s.val : Int) (ishl 1 (j.val : Int)) < s.val ∧ ia (ix (s.val : Int) (ishl 1 (j.val : Int))) (ishl 1 (j.val : Int)) = 0 := by decide +kernel
theorem shl_v : ∀ j : Fin 6, ishl 1 (j.val : Int) = ((2 ^ j.val : Nat) : Int) ∧ (j.val < 5 → ishl (ishl 1 (j.val : Int)) 1 = ishl 1 ((j.val + 1 : Nat) : Int)) := by decide +kernel
theorem sumUp_26 {X : Mem} {j : Nat} {N : Nat} {S : Int → Int} (hj : j < 5) (hN : N ≤ 32) (go : Int → Int → Mem → Option (Int × Mem)) : ∀ (k c : Nat), c ≤ N → N - c < k → L_X1_sumUp_26 go k N (ishl 1 j) c (ma X 45 (fun q => if 0 ≤ q ∧ q < (c : Int) then zs S (ishl 1 j) q else S q)) = B_X1_sumUp_64 go N (ishl 1 j) (ma X 45 (fun q => if 0 ≤ q ∧ q < (N : Int) then zs S (ishl 1 j) q else S q)) := by
  intro k
  induction k with
  | zero => intro c _ h; omega
  | succ k ih =>
    intro c hc hk
    have hI := ia_I (c : Int) (ishl 1 j)
    rw [L_X1_sumUp_26, c2_ok (by omega) (by omega) (by omega) (by omega)]
    by_cases g : (N : Int) ≤ (c : Int)
    · rw [if_pos g, show c = N by omega]
    · have e4 : (c : Int) + 1 = ((c + 1 : Nat) : Int) := rfl
      rw [if_neg g, c1_ok hI.1 hI.2]
      by_cases g1 : ia (c : Int) (ishl 1 j) = 0
      · have er : (fun q : Int => if 0 ≤ q ∧ q < (c : Int) then zs S (ishl 1 j) q else S q) = fun q : Int => if 0 ≤ q ∧ q < ((c + 1 : Nat) : Int) then zs S (ishl 1 j) q else S q := by
          funext q
          by_cases e : q = c
          · subst e
            rw [if_neg (by omega), if_pos (by omega)]
            unfold zs
            rw [if_pos g1]
          · by_cases e2 : 0 ≤ q ∧ q < (c : Int)
            · rw [if_pos e2, if_pos (by omega)]
            · rw [if_neg e2, if_neg (by omega)]
        rw [if_pos g1, B_X1_sumUp_58, e4, er]
        exact ih (c + 1) (by omega) (by omega)
      · obtain ⟨d1, d2, d3⟩ := bit_drop ⟨c, by omega⟩ ⟨j, hj⟩ g1
        have d1' : 0 ≤ ix (c : Int) (ishl 1 j) := d1
        have d2' : ix (c : Int) (ishl 1 j) < c := d2
        have d3' : ia (ix (c : Int) (ishl 1 j)) (ishl 1 j) = 0 := d3
        rw [if_neg g1, ax_ok (by omega) (by omega), ax_ok d1' (by omega), ax_ok (by omega) (by omega), bd_eq, ms_ma, ma_same, ma_ma, B_X1_sumUp_58, e4]
        have er : up (fun q : Int => if 0 ≤ q ∧ q < (c : Int) then zs S (ishl 1 j) q else S q) (c : Int) ((if 0 ≤ (c : Int) ∧ (c : Int) < (c : Int) then zs S (ishl 1 j) c else S c) + (if 0 ≤ ix (c : Int) (ishl 1 j) ∧ ix (c : Int) (ishl 1 j) < (c : Int) then zs S (ishl 1 j) (ix (c : Int) (ishl 1 j)) else S (ix (c : Int) (ishl 1 j)))) = fun q : Int => if 0 ≤ q ∧ q < ((c + 1 : Nat) : Int) then zs S (ishl 1 j) q else S q := by
          funext q
          unfold up
          by_cases e : q = c
          · subst e
            rw [if_pos rfl, if_neg (by omega), if_pos (by omega), if_pos (by omega)]
            unfold zs
            rw [if_neg g1, if_pos d3']
          · rw [if_neg e]
            show (if 0 ≤ q ∧ q < (c : Int) then zs S (ishl 1 j) q else S q) = _
            by_cases e2 : 0 ≤ q ∧ q < (c : Int)
            · rw [if_pos e2, if_pos (by omega)]
            · rw [if_neg e2, if_neg (by omega)]
        rw [er]
        exact ih (c + 1) (by omega) (by omega)
theorem sumUp_18 {X : Mem} {m N : Nat} {w : Int → Int} (hm : m ≤ 5) (hNm : N = 2 ^ m) : ∀ (k j : Nat) (S : Int → Int), j ≤ m → m - j < k → (∀ s : Int, 0 ≤ s → s < (N : Int) → S s = dotn (czf j s) w N) →
    ∃ S' : Int → Int, L_X1_sumUp_18 k (N : Int) (ishl 1 j) (ma X 45 S) = some (0, ma X 45 S') ∧ ∀ s : Int, 0 ≤ s → s < (N : Int) → S' s = dotn (czf m s) w N := by
  have h32 : N ≤ 32 := by
    rw [hNm]
    rcases show m = 0 ∨ m = 1 ∨ m = 2 ∨ m = 3 ∨ m = 4 ∨ m = 5 by omega with rfl | rfl | rfl | rfl | rfl | rfl <;> decide
  intro k
  induction k with
  | zero => intro j S _ h; omega
  | succ k ih =>
    intro j S hj hk hS
    obtain ⟨v1, v2⟩ := shl_v ⟨j, by omega⟩
    obtain ⟨B, hBj⟩ : ∃ B : Nat, 2 ^ j = B := ⟨_, rfl⟩
    have v1' : ishl 1 (j : Int) = (B : Int) := by
      rw [← hBj]
      exact v1
    have hjb : B ≤ N := by
      rw [← hBj, hNm]
      exact Nat.pow_le_pow_right (by decide) hj
    have hlt : j < m → B < N := fun q => by
      rw [← hBj, hNm]
      exact Nat.pow_lt_pow_right (by decide) q
    have heq : j = m → B = N := fun q => by rw [← hBj, hNm, q]
    rw [L_X1_sumUp_18, c2_ok (by omega) (by omega) (by omega) (by omega)]
    by_cases g : (N : Int) ≤ ishl 1 (j : Int)
    · have e : j = m := by
        by_cases e : j = m
        · exact e
        · have := hlt (by omega)
          omega
      rw [if_pos g]
      rw [e] at hS
      exact ⟨S, rfl, hS⟩
    · have hjm : j < m := by
        by_cases e : j = m
        · have := heq e
          omega
        · omega
      have h26 := sumUp_26 (X := X) (S := S) (j := j) (N := N) (by omega) h32 (fun x2 x3 X => L_X1_sumUp_18 k x2 x3 X) KF 0 (Nat.zero_le _) (by rw [KF_eq]; omega)
      have er : (fun q : Int => if 0 ≤ q ∧ q < ((0 : Nat) : Int) then zs S (ishl 1 (j : Int)) q else S q) = S := funext fun q => if_neg (by omega)
      rw [er] at h26
      have h26' : L_X1_sumUp_26 (fun x2 x3 X => L_X1_sumUp_18 k x2 x3 X) KF (N : Int) (ishl 1 (j : Int)) 0 (ma X 45 S) = _ := h26
      rw [if_neg g, h26', B_X1_sumUp_64, bd_eq, v2 (by show j < 5; omega)]
      refine ih (j + 1) _ (by omega) (by omega) fun s s0 s1 => ?_
      rw [if_pos ⟨s0, s1⟩]
      unfold zs
      by_cases g1 : ia s (ishl 1 (j : Int)) = 0
      · rw [if_pos g1, hS s s0 s1]
        exact dotn_ext _ (fun i _ _ => by
          show czf j s i = if ia s (ishl 1 (j : Int)) = 0 then czf j s i else czf j s i + czf j (ix s (ishl 1 (j : Int))) i
          rw [if_pos g1])
      · obtain ⟨sf, rfl⟩ := fin32 s0 (show s < 32 by omega)
        obtain ⟨d1, d2, d3⟩ := bit_drop sf ⟨j, by omega⟩ g1
        have d1' : 0 ≤ ix (sf.val : Int) (ishl 1 (j : Int)) := d1
        have d2' : ix (sf.val : Int) (ishl 1 (j : Int)) < sf.val := d2
        rw [if_neg g1, hS _ s0 s1, hS _ d1' (by omega), ← dotn_add]
        exact dotn_ext _ (fun i _ _ => by
          show czf j sf.val i + czf j (ix sf.val (ishl 1 (j : Int))) i = if ia sf.val (ishl 1 (j : Int)) = 0 then czf j sf.val i else czf j sf.val i + czf j (ix sf.val (ishl 1 (j : Int))) i
          rw [if_neg g1])
theorem czf_all : ∀ (m : Fin 6) (a : Fin 32), a.val < 2 ^ m.val → (0 ≤ ia (((2 ^ m.val : Nat) : Int) - 1) (ix (a.val : Int) (-1)) ∧ ia (((2 ^ m.val : Nat) : Int) - 1) (ix (a.val : Int) (-1)) < ((2 ^ m.val : Nat) : Int)) ∧ ∀ i : Fin 32, i.val < 2 ^ m.val → czf m.val (ia (((2 ^ m.val : Nat) : Int) - 1) (ix (a.val : Int) (-1))) (i.val : Int) = if pq 0 (a.val : Int) (i.val : Int) = true then 1 else 0 := by decide +kernel
/-- a row of weights: none below 0, none beyond the sets -/
def WT (A w : Int → Int) : Prop := (∀ s : Int, 0 ≤ s → s < 32 → 0 ≤ w s) ∧ (∀ s : Int, NS A ≤ s → s < 32 → w s = 0) ∧ sm w 32 ≤ 1000000000000000
theorem TH.wt {P A : Int → Int} (h : TH P A) : WT A P := ⟨fun s a b => (h.1 s a b).1, h.2.2.1, by rw [h.2.1]; decide⟩
theorem WT.r {A w : Int → Int} (h : WT A w) {q : Int → Bool} : 0 ≤ sg q w 32 ∧ sg q w 32 ≤ 1000000000000000 := by
  have := sg_r (q := q) (w := w) 32 (fun s a b => h.1 s a b)
  have := h.2.2
  omega
/-- the row of sums, as sumWithout reads it -/
def SUM (A w S : Int → Int) : Prop := ∀ a : Int, 0 ≤ a → a < NS A → S (ia (NS A - 1) (ix a (-1))) = pS w 0 a
theorem sumUp_eq {X : Mem} {A w : Int → Int} {r p : Int} (hB : BD A) (hr : r ∈ RIV) (hR : RV X r A) (h11 : X 42 11 = r) (hw : WT A (X p)) (hpw : X p = w) : ∃ S : Int → Int, f_X1_sumUp p X = some (0, ma X 45 S) ∧ SUM A w S := by
  obtain ⟨e1, e2, e3⟩ := NS_v hB.2.1
  have hN := NS_r hB.2.1
  have hrr := RIV_r hr
  obtain ⟨m, hm⟩ : ∃ m : Nat, (A 2).toNat = m := ⟨_, rfl⟩
  rw [hm] at e1 e2 e3
  unfold f_X1_sumUp f_X11_copyParts
  rw [cpk_ok (by decide) (by decide) (by decide) (by decide) (by decide), bd_eq, cl_some]
  have hmc : mc X p 0 45 0 32 = ma X 45 (fun q => if 0 ≤ q ∧ q < 0 + 32 then X p (0 + (q - 0)) else X 45 q) := rfl
  rw [hmc, ma_ne (j := 42) (by decide), h11, cm_ok hr, show f_X2_setCount r (ma X 45 (fun q => if 0 ≤ q ∧ q < 0 + 32 then X p (0 + (q - 0)) else X 45 q)) = some (ishl 1 ((ma X 45 (fun q => if 0 ≤ q ∧ q < 0 + 32 then X p (0 + (q - 0)) else X 45 q)) r 2), _) from rfl, cl_some, ma_ne (j := r) (by omega), hR.1.2.2.1, show ishl 1 (A 2) = NS A from rfl, e1]
  obtain ⟨N, hNN⟩ : ∃ N : Nat, N = 2 ^ m := ⟨_, rfl⟩
  rw [← hNN] at e1
  have h18 := sumUp_18 (X := X) (m := m) (N := N) (w := w) e2 hNN KF 0 (fun q => if 0 ≤ q ∧ q < 0 + 32 then X p (0 + (q - 0)) else X 45 q) (Nat.zero_le _) (by rw [KF_eq]; omega) (fun s s0 s1 => by
    show (if 0 ≤ s ∧ s < 0 + 32 then X p (0 + (s - 0)) else X 45 s) = dotn (fun i => if i = s then 1 else 0) w N
    rw [dotn_unit s0, if_pos s1, if_pos (by omega), Int.zero_add, Int.sub_zero, hpw])
  obtain ⟨S', i1, i2⟩ := h18
  rw [← hNN]
  refine ⟨S', i1, fun a a0 a1 => ?_⟩
  obtain ⟨af, rfl⟩ := fin32 a0 (show a < 32 by omega)
  have hc := czf_all ⟨m, by omega⟩ af (by show af.val < 2 ^ m; rw [← hNN]; omega)
  have hc' : (0 ≤ ia (((2 ^ m : Nat) : Int) - 1) (ix (af.val : Int) (-1)) ∧ ia (((2 ^ m : Nat) : Int) - 1) (ix (af.val : Int) (-1)) < ((2 ^ m : Nat) : Int)) ∧ ∀ i : Fin 32, i.val < 2 ^ m → czf m (ia (((2 ^ m : Nat) : Int) - 1) (ix (af.val : Int) (-1))) (i.val : Int) = if pq 0 (af.val : Int) (i.val : Int) = true then 1 else 0 := hc
  rw [← hNN] at hc'
  obtain ⟨⟨c1', c2'⟩, c3⟩ := hc'
  have hsb := sg_beyond (q := pq 0 (af.val : Int)) (w := w) (N := N) (32 - N) (fun s x y => by
    rw [← hpw]
    exact hw.2.1 s (by omega) (by omega))
  rw [show N + (32 - N) = 32 by omega] at hsb
  rw [e1, i2 _ c1' c2', dotn_ext (g := fun i => if pq 0 (af.val : Int) i = true then 1 else 0) N (fun i x y => by
    obtain ⟨fi, rfl⟩ := fin32 x (show i < 32 by omega)
    exact c3 fi (by omega)), dotn_ind]
  unfold pS
  exact hsb.symm
theorem sumWithout_eq {Y : Mem} {A w : Int → Int} {r a : Int} (hB : BD A) (hr : r ∈ RIV) (hR : RV Y r A) (h11 : Y 42 11 = r) (hS : SUM A w (Y 45)) (a0 : 0 ≤ a) (a1 : a < NS A) : f_X1_sumWithout a Y = some (pS w 0 a, Y) := by
  obtain ⟨e1, e2, e3⟩ := NS_v hB.2.1
  have hN := NS_r hB.2.1
  obtain ⟨af, rfl⟩ := fin32 a0 (show a < 32 by omega)
  obtain ⟨⟨c1, c2⟩, -⟩ := czf_all ⟨(A 2).toNat, by omega⟩ af (by show af.val < 2 ^ (A 2).toNat; generalize 2 ^ (A 2).toNat = B at *; omega)
  have c1' : 0 ≤ ia (NS A - 1) (ix (af.val : Int) (-1)) := by rw [e1]; exact c1
  have c2' : ia (NS A - 1) (ix (af.val : Int) (-1)) < NS A := by rw [e1]; exact c2
  unfold f_X1_sumWithout
  rw [h11, cm_ok hr, show f_X2_setCount r Y = some (ishl 1 (Y r 2), Y) from rfl, cl_some, hR.1.2.2.1, show ishl 1 (A 2) = NS A from rfl, ax_ok c1' (by omega), hS _ a0 a1]
theorem sub_pq : ∀ (l a s : Fin 32), (∀ b : Fin 5, ia (ishr (l.val : Int) (b.val : Int)) 1 = 1 → ia (ishr (a.val : Int) (b.val : Int)) 1 = 1) → pq 0 (a.val : Int) (s.val : Int) = true → pq 0 (l.val : Int) (s.val : Int) = true := by
  intro l a s h hp
  have bits : ∀ x y : Fin 32, (decide (ia (x.val : Int) (y.val : Int) = 0)) = decide (∀ b : Fin 5, ¬ (ia (ishr (x.val : Int) (b.val : Int)) 1 = 1 ∧ ia (ishr (y.val : Int) (b.val : Int)) 1 = 1)) := by decide +kernel
  unfold pq at *
  rw [Bool.and_eq_true] at hp ⊢
  refine ⟨hp.1, ?_⟩
  have h2 := hp.2
  rw [bits, decide_eq_true_eq] at h2 ⊢
  exact fun b hb => h2 b ⟨hb.1, h b hb.2⟩
theorem sg_le {q q' : Int → Bool} {w : Int → Int} : ∀ n : Nat, (∀ s : Int, 0 ≤ s → s < n → q s = true → q' s = true) → (∀ s : Int, 0 ≤ s → s < n → 0 ≤ w s) → sg q w n ≤ sg q' w n
  | 0, _, _ => Int.le_refl _
  | n + 1, h, hw => by
    have h1 := sg_le (q := q) (q' := q') n (fun s a b => h s a (by omega)) (fun s a b => hw s a (by omega))
    have h2 := hw n (by omega) (by omega)
    have h3 := h n (by omega) (by omega)
    show sg q w n + (if q n = true then w n else 0) ≤ sg q' w n + (if q' n = true then w n else 0)
    by_cases e : q n = true
    · rw [if_pos e, if_pos (h3 e)]
      omega
    · rw [if_neg e]
      split <;> omega
theorem sub_pq2 {l a s : Int} (l0 : 0 ≤ l) (l1 : l < 32) (a0 : 0 ≤ a) (a1 : a < 32) (s0 : 0 ≤ s) (s1 : s < 32) (hs : sub l a) (h : pq 0 a s = true) : pq 0 l s = true := by
  obtain ⟨lf, rfl⟩ := fin32 l0 l1
  obtain ⟨af, rfl⟩ := fin32 a0 a1
  obtain ⟨sf, rfl⟩ := fin32 s0 s1
  exact sub_pq lf af sf (fun b hb => hs b.val (Int.natCast_nonneg _) (Int.ofNat_lt.mpr b.isLt) hb) h
theorem pS_sub {A w : Int → Int} {l a : Int} (hw : WT A w) (l0 : 0 ≤ l) (l1 : l < 32) (a0 : 0 ≤ a) (a1 : a < 32) (hs : sub l a) : pS w 0 a ≤ pS w 0 l :=
  sg_le 32 (fun s s0 s1 h => sub_pq2 l0 l1 a0 a1 s0 s1 hs h) hw.1
/-- the greatest sum of all sets with a way -/
def BO (A : Int → Int) (nd f to : Int) (w : Int → Int) (v : Int) : Prop := (0 ≤ v ∧ v ≤ 1000000000000000) ∧ (∀ a : Int, 0 ≤ a → a < NS A → WAYP A nd f to a → pS w 0 a ≤ v) ∧ ((v = 0 ∧ ∀ a : Int, 0 ≤ a → a < NS A → ¬ WAYP A nd f to a) ∨ ∃ a : Int, (0 ≤ a ∧ a < NS A) ∧ WAYP A nd f to a ∧ v = pS w 0 a)
theorem BO_u {A : Int → Int} {nd f to : Int} {w : Int → Int} {v v' : Int} (h : BO A nd f to w v) (h' : BO A nd f to w v') : v = v' := by
  obtain ⟨-, h1, h2⟩ := h
  obtain ⟨-, g1, g2⟩ := h'
  rcases h2 with ⟨h2, h3⟩ | ⟨a, a1, a2, a3⟩
  · rcases g2 with ⟨g2, -⟩ | ⟨a, a1, a2, -⟩
    · omega
    · exact absurd a2 (h3 a a1.1 a1.2)
  · rcases g2 with ⟨-, g3⟩ | ⟨b, b1, b2, b3⟩
    · exact absurd a2 (g3 a a1.1 a1.2)
    · have := h1 b b1.1 b1.2 b2
      have := g1 a a1.1 a1.2 a2
      omega
theorem bestOf_10 {Y : Mem} {A w : Int → Int} {nd r f to : Int} (hB : BD A) (hr : r ∈ RIV) (hR : RV Y r A) (h11 : Y 42 11 = r) (hS : SUM A w (Y 45)) (hw : WT A w) (hn : 0 ≤ Y 42 2 ∧ Y 42 2 ≤ 32) (hl : ∀ k : Int, 0 ≤ k → k < Y 42 2 → 0 ≤ Y 44 k ∧ Y 44 k < NS A) : ∀ (k : Nat) (x c : Int), 0 ≤ c → c ≤ Y 42 2 → (Y 42 2 - c).toNat < k → (0 ≤ x ∧ x ≤ 1000000000000000) → (∀ i : Int, 0 ≤ i → i < c → pS w 0 (Y 44 i) ≤ x) → (x = 0 ∨ ∃ i : Int, 0 ≤ i ∧ i < c ∧ x = pS w 0 (Y 44 i)) →
    ∃ v : Int, L_X1_bestOf_10 k x c Y = some (v, Y) ∧ (0 ≤ v ∧ v ≤ 1000000000000000) ∧ (∀ i : Int, 0 ≤ i → i < Y 42 2 → pS w 0 (Y 44 i) ≤ v) ∧ (v = 0 ∨ ∃ i : Int, 0 ≤ i ∧ i < Y 42 2 ∧ v = pS w 0 (Y 44 i)) := by
  intro k
  induction k with
  | zero => intro x c _ _ h; omega
  | succ k ih =>
    intro x c c0 c1 hk hx h1 h2
    rw [L_X1_bestOf_10, c2_ok (by omega) (by omega) (by omega) (by omega)]
    by_cases g : Y 42 2 ≤ c
    · rw [if_pos g]
      have e : c = Y 42 2 := by omega
      rw [e] at h1 h2
      exact ⟨x, rfl, hx, h1, h2⟩
    · obtain ⟨l0, l1⟩ := hl c c0 (by omega)
      have hp := hw.r (q := pq 0 (Y 44 c))
      rw [if_neg g, ax_ok c0 (by omega), sumWithout_eq hB hr hR h11 hS l0 l1, cl_some, d2_ok (by omega) (by omega) (by unfold pS; omega) (by unfold pS; omega), bd_eq]
      have hp' : 0 ≤ pS w 0 (Y 44 c) ∧ pS w 0 (Y 44 c) ≤ 1000000000000000 := hp
      have k1 : 0 ≤ c + 1 := by omega
      have k2 : c + 1 ≤ Y 42 2 := by omega
      have k3 : (Y 42 2 - (c + 1)).toNat < k := by
        clear h2 ih
        omega
      have k4 : 0 ≤ max x (pS w 0 (Y 44 c)) ∧ max x (pS w 0 (Y 44 c)) ≤ 1000000000000000 := by
        clear h2 ih
        omega
      refine ih _ (c + 1) k1 k2 k3 k4 (fun i i0 i1 => ?_) ?_
      · clear h2
        by_cases e : i = c
        · rw [e]
          omega
        · have := h1 i i0 (by omega)
          omega
      · by_cases e : x ≤ pS w 0 (Y 44 c)
        · clear h2
          exact Or.inr ⟨c, c0, by omega, by omega⟩
        · rcases h2 with h2 | ⟨i, i0, i1, i2⟩
          · omega
          · exact Or.inr ⟨i, i0, by omega, by omega⟩
theorem bestOf_eq {X : Mem} {A w : Int → Int} {nd r f to p : Int} (hB : BD A) (hG : GL A nd r X) (hS : SRC A nd f to (NS A) X) (hw : WT A (X p)) (hpw : X p = w) : ∃ (v : Int) (S : Int → Int), f_X1_bestOf p X = some (v, ma X 45 S) ∧ BO A nd f to w v ∧ SUM A w S := by
  have hN := NS_r hB.2.1
  obtain ⟨q1, q2, q3, -⟩ := id hG
  have hrr := RIV_r q1
  obtain ⟨s1, s2, s3, s4⟩ := hS
  obtain ⟨S, e1, e2⟩ := sumUp_eq hB q1 q2 q3 hw hpw
  rw [hpw] at hw
  unfold f_X1_bestOf
  rw [e1, cl_some]
  have y42 : ma X 45 S 42 = X 42 := ma_ne (by decide)
  have y44 : ma X 45 S 44 = X 44 := ma_ne (by decide)
  obtain ⟨v, i1, i2, i3, i4⟩ := bestOf_10 (Y := ma X 45 S) (r := r) (nd := nd) (f := f) (to := to) hB q1 (q2.fr2 q1 fun i h => ma_ne (by omega)) (by rw [y42]; exact q3) (by rw [ma_same]; exact e2) hw (by rw [y42]; omega) (by rw [y42, y44]; exact fun k k0 k1 => (s3 k k0 k1).1) KF 0 0 (by decide) (by rw [y42]; omega) (by rw [KF_eq, y42]; omega) (by decide) (fun i a b => by omega) (Or.inl rfl)
  rw [y42, y44] at i3 i4
  refine ⟨v, S, i1, ⟨i2, fun a a0 a1 ha => ?_, ?_⟩, e2⟩
  · obtain ⟨k, k0, k1, k2⟩ := s4 a a0 a1 ha
    have := pS_sub hw (s3 k k0 k1).1.1 (by have := (s3 k k0 k1).1.2; omega) a0 (by omega) k2
    have := i3 k k0 k1
    omega
  · by_cases hz : 0 < X 42 2
    · rcases i4 with e | ⟨i, j0, j1, j2⟩
      · refine Or.inr ⟨X 44 0, (s3 0 (by decide) hz).1, (s3 0 (by decide) hz).2, ?_⟩
        have h1 := i3 0 (by decide) hz
        have h2 : 0 ≤ pS w 0 (X 44 0) := (hw.r (q := pq 0 (X 44 0))).1
        omega
      · exact Or.inr ⟨X 44 i, (s3 i j0 j1).1, (s3 i j0 j1).2, j2⟩
    · refine Or.inl ⟨?_, fun a a0 a1 ha => ?_⟩
      · rcases i4 with e | ⟨i, j0, j1, j2⟩
        · exact e
        · omega
      · obtain ⟨k, k0, k1, -⟩ := s4 a a0 a1 ha
        omega
