/-! texts: words and names -/
noncomputable def WS33 : List (List Int) := [sB 0, sB 1, sB 2, sB 4, sB 5, sB 6, sB 7, sB 8, sB 9, sB 10, sB 11, sB 12, sB 13, sB 14, sB 15, sB 16, sB 17, sB 18, sB 19, sB 20]
noncomputable def WS34 : List (List Int) := [sB 22, sB 23, sB 24, sB 25, sB 26, sB 27, sB 21, sB 28, sB 29, sB 31, sB 32, sB 30]
/-- the first place of L in a row of words, else -1 -/
def wixa (L : List Int) : List (List Int) → Int → Int
  | [], _ => -1
  | W :: ws, i => if L = W then i else wixa L ws (i + 1)
theorem wixa_get {L : List Int} : ∀ (ws : List (List Int)) (i0 : Int) (q : Nat), 0 ≤ i0 → wixa L ws i0 = i0 + q → q < ws.length ∧ L = ws.getD q []
  | [], i0, q, h0, h => by
    have h : (-1 : Int) = i0 + q := h
    omega
  | W :: ws, i0, q, h0, h => by
    unfold wixa at h
    by_cases g : L = W
    · rw [if_pos g] at h
      have : q = 0 := by omega
      subst this
      exact ⟨by simp, g⟩
    · rw [if_neg g] at h
      have hq : wixa L ws (i0 + 1) = -1 ∨ i0 + 1 ≤ wixa L ws (i0 + 1) := by
        have : ∀ (ws : List (List Int)) (i : Int), wixa L ws i = -1 ∨ i ≤ wixa L ws i := fun ws => by
          induction ws with
          | nil => exact fun i => Or.inl rfl
          | cons W ws ih =>
            intro i
            unfold wixa
            by_cases g : L = W
            · rw [if_pos g]; exact Or.inr (Int.le_refl _)
            · rw [if_neg g]
              rcases ih (i + 1) with h | h
              · exact Or.inl h
              · exact Or.inr (by omega)
        exact this ws (i0 + 1)
      have hq1 : 1 ≤ q := by omega
      have i := wixa_get (L := L) ws (i0 + 1) (q - 1) (by omega) (by omega)
      refine ⟨by simp; omega, ?_⟩
      rw [i.2]
      obtain ⟨q', rfl⟩ : ∃ q', q = q' + 1 := ⟨q - 1, by omega⟩
      simp
theorem wixa_r {L : List Int} : ∀ (ws : List (List Int)) (i : Int), wixa L ws i = -1 ∨ (i ≤ wixa L ws i ∧ wixa L ws i < i + ws.length)
  | [], i => Or.inl rfl
  | W :: ws, i => by
    unfold wixa
    by_cases g : L = W
    · rw [if_pos g]; exact Or.inr ⟨Int.le_refl _, by simp; omega⟩
    · rw [if_neg g]
      rcases wixa_r ws (i + 1) with h | h
      · exact Or.inl h
      · refine Or.inr ⟨by omega, ?_⟩
        have := h.2
        simp
        omega
theorem wixa_of {ws : List (List Int)} (hn : ws.Nodup) : ∀ (i0 : Int) (q : Nat), q < ws.length → wixa (ws.getD q []) ws i0 = i0 + q := by
  induction ws with
  | nil => intro i0 q h; simp at h
  | cons W ws ih =>
    intro i0 q hq
    rw [List.nodup_cons] at hn
    unfold wixa
    match q with
    | 0 =>
      rw [if_pos (by simp)]
      simp
    | q + 1 =>
      have hq' : q < ws.length := by simpa using hq
      have e : (W :: ws).getD (q + 1) [] = ws.getD q [] := by simp
      rw [e, if_neg (fun h => hn.1 (by
        rw [← h, List.getD_eq_getElem?_getD, List.getElem?_eq_getElem hq']
        exact List.getElem_mem hq')), ih hn.2 (i0 + 1) q hq']
      omega
/-- the words stand so in a text of words -/
noncomputable def pwB (p : Nat) : List (List Int) → Nat → Bool
  | [], x => decide ((sB p).length = x)
  | W :: ws, x => (List.range W.length).all (fun j => decide (tl (sB p) (((x + j : Nat) : Int)) = W.getD j 0 ∧ 97 ≤ W.getD j 0 ∧ W.getD j 0 ≤ 122)) && decide (tl (sB p) ((x + W.length : Nat) : Int) = 32 ∧ x + W.length < (sB p).length) && pwB p ws (x + W.length + 1)
theorem pw33 : pwB 33 WS33 1 = true := by decide +kernel
theorem pw34 : pwB 34 WS34 1 = true := by decide +kernel
theorem nd33 : WS33.Nodup := by decide +kernel
theorem nd34 : WS34.Nodup := by decide +kernel
theorem len_sB : ∀ p : Fin 35, (sB p.val).length ≤ 200 := by decide +kernel
theorem byteAt_z {Z : Mem} {T : Int → Int} {n i : Int} (hT : TXT T n) (h127 : ∀ i : Int, 0 ≤ i → i < n → Z 127 i = T i) (h11 : Z 120 11 = n) (i0 : 0 ≤ i) (i1 : i ≤ 900) : f_X12_byteAt i Z = some (if i < n then (if T i < 0 then T i + 256 else T i) else -1, Z) := by
  have h := byteAt_eq (R := Z 120) hT h127 h11 i0 i1
  rw [ma_self] at h
  exact h
/-- a word held against one of the row -/
theorem inw_68 {Z : Mem} {T : Int → Int} {n b : Int} {p x m : Nat} {W : List Int} {x2 : Int} (hT : TXT T n) (h127 : ∀ i : Int, 0 ≤ i → i < n → Z 127 i = T i) (h11 : Z 120 11 = n) (h13 : Z 120 13 = b) (b0 : 0 ≤ b) (bm : b + m ≤ n) (hl : ∀ i : Nat, i < m → 97 ≤ T (b + i) ∧ T (b + i) ≤ 122) (hp : (sB p).length ≤ 200) (hx : x + m < (sB p).length) (hW : W.length = m) (hs : ∀ j : Nat, j < m → tl (sB p) ((x + j : Nat) : Int) = W.getD j 0 ∧ 97 ≤ W.getD j 0 ∧ W.getD j 0 ≤ 122) (go : Nat → Int → Int → Mem → Option (Int × Mem)) : ∀ (K j : Nat), j ≤ m → m - j < K → (∀ i : Nat, i < j → T (b + i) = W.getD i 0) → L_X12_inWords_68 go K p x2 x ((x + m : Nat) : Int) 1 ((x + j : Nat) : Int) Z = B_X12_inWords_115 go p x2 ((x + m : Nat) : Int) (if LT T b m = W then 1 else 0) Z := by
  have hn := hT.1
  intro K
  induction K with
  | zero => intro j _ h; omega
  | succ K ih =>
    intro j hj hK hpre
    rw [L_X12_inWords_68, c2_ok (by omega) (by omega) (by omega) (by omega)]
    by_cases g : ((x + m : Nat) : Int) ≤ ((x + j : Nat) : Int)
    · have : j = m := by omega
      subst this
      rw [if_pos g, if_pos (getD_ext _ _ (by rw [LT_len, hW]) (fun i hi => by rw [LT_get j i (by omega), hpre i (by omega)]))]
    · obtain ⟨s1, s2, s3⟩ := hs j (by omega)
      have ht := hl j (by omega)
      have e13 : b + ((x + j : Nat) : Int) - (x : Int) = b + j := by omega
      have e3 : ((x + j : Nat) : Int) + 1 = ((x + (j + 1) : Nat) : Int) := by omega
      rw [if_neg g, c1_okk (by decide) (by decide), if_neg (by decide), ax_ok (by omega) (by omega), h13, e13, byteAt_z hT h127 h11 (by omega) (by omega), if_pos (by omega), if_neg (by omega), cl_some, s1, c2_ok (by omega) (by omega) (by omega) (by omega)]
      by_cases ge : W.getD j 0 = T (b + j)
      · rw [if_neg (by simpa using ge), B_X12_inWords_107, e3]
        exact ih (j + 1) (by omega) (by omega) fun i hi => by
          by_cases e : i = j
          · rw [e]; exact ge.symm
          · exact hpre i (by omega)
      · rw [if_pos ge, B_X12_inWords_107, e3, if_neg (fun h => ge (by rw [← h, LT_get m j (by omega)]))]
        obtain ⟨K', rfl⟩ : ∃ K', K = K' + 1 := ⟨K - 1, by omega⟩
        rw [L_X12_inWords_68, c2_ok (by omega) (by omega) (by omega) (by omega)]
        split
        · rfl
        · rw [c1_okk (by decide) (by decide), if_pos rfl]
theorem inw_25 {Z : Mem} {p x m : Nat} {W : List Int} {x2 : Int} (hp : (sB p).length ≤ 200) (hx : x + m < (sB p).length) (hs : ∀ j : Nat, j < m → tl (sB p) ((x + j : Nat) : Int) = W.getD j 0 ∧ 97 ≤ W.getD j 0 ∧ W.getD j 0 ≤ 122) (he : tl (sB p) ((x + m : Nat) : Int) = 32) (go : Nat → Int → Int → Mem → Option (Int × Mem)) : ∀ (K j : Nat), j ≤ m → m - j < K → L_X12_inWords_25 go K p x2 x ((x + j : Nat) : Int) Z = B_X12_inWords_42 go p x2 x ((x + m : Nat) : Int) Z := by
  intro K
  induction K with
  | zero => intro j _ h; omega
  | succ K ih =>
    intro j hj hK
    have e3 : ((x + j : Nat) : Int) + 1 = ((x + (j + 1) : Nat) : Int) := by omega
    by_cases g : j = m
    · subst g
      rw [L_X12_inWords_25, ax_ok (by omega) (by omega), he, c2_ok (by decide) (by decide) (by decide) (by decide), if_pos rfl]
    · obtain ⟨s1, s2, s3⟩ := hs j (by omega)
      rw [L_X12_inWords_25, ax_ok (by omega) (by omega), s1, c2_ok (by omega) (by omega) (by decide) (by decide), if_neg (by omega), e3]
      exact ih (j + 1) (by omega) (by omega)
theorem inw_14 {Z : Mem} {T : Int → Int} {n b : Int} {p m : Nat} (hT : TXT T n) (h127 : ∀ i : Int, 0 ≤ i → i < n → Z 127 i = T i) (h11 : Z 120 11 = n) (h13 : Z 120 13 = b) (h14 : Z 120 14 = b + m) (b0 : 0 ≤ b) (bm : b + m ≤ n) (hl : ∀ i : Nat, i < m → 97 ≤ T (b + i) ∧ T (b + i) ≤ 122) (hp : (sB p).length ≤ 200) : ∀ (ws : List (List Int)) (x i K : Nat), pwB p ws x = true → ws.length < K → L_X12_inWords_14 K p i x Z = some (wixa (LT T b m) ws i, Z)
  | [], x, i, 0, _, h => by simp at h
  | W :: ws, x, i, 0, _, h => by simp at h
  | [], x, i, K + 1, hw, _ => by
    have hw : (sB p).length = x := by simpa [pwB] using hw
    rw [L_X12_inWords_14, c2_ok (by omega) (by omega) (by omega) (by omega), if_pos (by omega)]
    rfl
  | W :: ws, x, i, K + 1, hw, hK => by
    have hn := hT.1
    have hw2 : ((∀ j : Nat, j < W.length → tl (sB p) ((x + j : Nat) : Int) = W.getD j 0 ∧ 97 ≤ W.getD j 0 ∧ W.getD j 0 ≤ 122) ∧ (tl (sB p) ((x + W.length : Nat) : Int) = 32 ∧ x + W.length < (sB p).length)) ∧ pwB p ws (x + W.length + 1) = true := by
      unfold pwB at hw
      rw [Bool.and_eq_true, Bool.and_eq_true, List.all_eq_true, decide_eq_true_eq] at hw
      refine ⟨⟨fun j hj => ?_, hw.1.2⟩, hw.2⟩
      have := hw.1.1 j (List.mem_range.mpr hj)
      exact of_decide_eq_true this
    obtain ⟨⟨w1, w2, w3⟩, w4⟩ := hw2
    have ih := inw_14 hT h127 h11 h13 h14 b0 bm hl hp ws (x + W.length + 1) (i + 1) K w4 (by simp at hK; omega)
    have e25 := inw_25 (Z := Z) (x2 := (i : Int)) (m := W.length) hp w3 w1 w2 (fun x1 x2 x3 X => L_X12_inWords_14 K x1 x2 x3 X) KF 0 (by omega) (by rw [KF_eq]; omega)
    have e25 : L_X12_inWords_25 (fun x1 x2 x3 X => L_X12_inWords_14 K x1 x2 x3 X) KF p i x ((x : Nat) : Int) Z = _ := e25
    have next : ∀ c : Int, c = 0 → LT T b m ≠ W → B_X12_inWords_115 (fun x1 x2 x3 X => L_X12_inWords_14 K x1 x2 x3 X) p i ((x + W.length : Nat) : Int) c Z = some (wixa (LT T b m) (W :: ws) i, Z) := fun c hc hne => by
      have e3 : ((x + W.length : Nat) : Int) + 1 = ((x + W.length + 1 : Nat) : Int) := by omega
      have e4 : (i : Int) + 1 = ((i + 1 : Nat) : Int) := rfl
      rw [B_X12_inWords_115, hc, c1_okk (by decide) (by decide), if_pos rfl, bd_eq, e3, e4, ih]
      show _ = some (if LT T b m = W then (i : Int) else wixa (LT T b m) ws ((i : Int) + 1), Z)
      rw [if_neg hne]
      rfl
    rw [L_X12_inWords_14, c2_ok (by omega) (by omega) (by omega) (by omega), if_neg (by omega), e25, B_X12_inWords_42, h13, h14, c2_ok (by omega) (by omega) (by omega) (by omega)]
    by_cases g : ((x + W.length : Nat) : Int) - (x : Int) = b + m - b
    · have hm : W.length = m := by omega
      have e68 := inw_68 (Z := Z) (x := x) (m := m) (x2 := (i : Int)) hT h127 h11 h13 b0 bm hl hp (by omega) hm (by rw [← hm]; exact w1) (fun x1 x2 x3 X => L_X12_inWords_14 K x1 x2 x3 X) KF 0 (by omega) (by rw [KF_eq]; omega) (fun i hi => by omega)
      have e68 : L_X12_inWords_68 (fun x1 x2 x3 X => L_X12_inWords_14 K x1 x2 x3 X) KF p i x ((x + m : Nat) : Int) 1 ((x : Nat) : Int) Z = _ := e68
      rw [if_neg (by simpa using g), B_X12_inWords_63, hm, e68]
      by_cases gl : LT T b m = W
      · rw [if_pos gl, B_X12_inWords_115, c1_okk (by decide) (by decide), if_neg (by decide)]
        show _ = some (if LT T b m = W then (i : Int) else _, Z)
        rw [if_pos gl]
      · have hx := next 0 rfl gl
        rw [hm] at hx
        rw [if_neg gl]
        exact hx
    · rw [if_pos g, B_X12_inWords_63]
      have hne : LT T b m ≠ W := fun h => g (by rw [← h, LT_len]; omega)
      have e68 : L_X12_inWords_68 (fun x1 x2 x3 X => L_X12_inWords_14 K x1 x2 x3 X) KF p i x ((x + W.length : Nat) : Int) 0 x Z = B_X12_inWords_115 (fun x1 x2 x3 X => L_X12_inWords_14 K x1 x2 x3 X) p i ((x + W.length : Nat) : Int) 0 Z := by
        obtain ⟨K', hK'⟩ : ∃ k' : Nat, KF = k' + 1 := ⟨4611686018427387903, by rw [KF_eq]⟩
        rw [hK', L_X12_inWords_68, c2_ok (by omega) (by omega) (by omega) (by omega)]
        split
        · rfl
        · rw [c1_okk (by decide) (by decide), if_pos rfl]
      rw [e68]
      exact next 0 rfl hne
/-- the reference finds a word -/
theorem inWords_eq {Z : Mem} {T : Int → Int} {n b e k v w x : Int} {ws : List (List Int)} {p : Nat} (hT : TXT T n) (hK : TK T n b e k w v) (hM : MS Z T n b e k x) (hp : (sB p).length ≤ 200) (hw : pwB p ws 1 = true) (hws : ws.length < 100) : f_X12_inWords p Z = some (if k = 1 then wixa (LT T b (e - b).toNat) ws 0 else -1, Z) := by
  obtain ⟨m1, m2, m3, m4, m5, -⟩ := hM
  have hn := hT.1
  unfold f_X12_inWords
  have hk2 : km k = 2 ↔ k = 1 := by
    obtain ⟨-, hK⟩ := hK
    unfold km
    rcases hK with ⟨h, -⟩ | ⟨h, -⟩ | ⟨h, -⟩ | ⟨h, -⟩ | ⟨h, -⟩ <;> subst h <;> decide
  have hkr : 0 ≤ km k ∧ km k ≤ 4 := by
    unfold km
    split
    · decide
    · split
      · decide
      · split
        · decide
        · split <;> decide
  rw [m3, c2_ok (by omega) (by omega) (by decide) (by decide)]
  by_cases g : k = 1
  · obtain ⟨⟨h1, h2, h3⟩, hK⟩ := hK
    have hl : ∀ i : Nat, i < (e - b).toNat → 97 ≤ T (b + i) ∧ T (b + i) ≤ 122 := by
      rcases hK with ⟨h, -⟩ | ⟨-, -, h, -⟩ | ⟨h, -⟩ | ⟨h, -⟩ | ⟨h, -⟩
      · omega
      · exact h
      · omega
      · omega
      · omega
    have h14 := inw_14 (b := b) (m := (e - b).toNat) hT m1 m2 m4 (by rw [m5]; omega) h1 (by omega) hl hp ws 1 0 KF hw (by rw [KF_eq]; omega)
    have h14 : L_X12_inWords_14 KF p 0 1 Z = _ := h14
    rw [if_pos (hk2.mpr g), if_pos g, h14]
    rfl
  · rw [if_neg (fun h => g (hk2.mp h)), if_neg g]
/-- the class holds a word against the token -/
theorem is_30 {X : Mem} {T : Int → Int} {n b : Int} {p m : Nat} (hT : TXT T n) (h36 : X 36 = T) (h5 : X 35 5 = b) (b0 : 0 ≤ b) (bm : b + m ≤ n) (hp : (sB p).length = m) (hs : ∀ j : Nat, j < m → 0 ≤ tl (sB p) j ∧ tl (sB p) j ≤ 127) : ∀ (K j : Nat), j ≤ m → m - j < K → (∀ i : Nat, i < j → T (b + i) = (sB p).getD i 0) → L_X8_is_30 K p m j X = some (if LT T b m = sB p then 1 else 0, X) := by
  have hn := hT.1
  intro K
  induction K with
  | zero => intro j _ h; omega
  | succ K ih =>
    intro j hj hK hpre
    rw [L_X8_is_30, c2_ok (by omega) (by omega) (by omega) (by omega)]
    by_cases g : (m : Int) ≤ (j : Int)
    · have : j = m := by omega
      subst this
      rw [if_pos g, if_pos (getD_ext _ _ (by rw [LT_len, hp]) (fun i hi => by rw [LT_get j i (by omega), hpre i (by omega)]))]
    · have ht := hT.2 (b + j) (by omega) (by omega)
      have hsj := hs j (by omega)
      have e3 : (j : Int) + 1 = ((j + 1 : Nat) : Int) := rfl
      have etl : tl (sB p) (j : Int) = (sB p).getD j 0 := rfl
      rw [if_neg g, h5, ax_ok (by omega) (by omega), ax_ok (by omega) (by omega), h36, c2_ok (by omega) (by omega) (by omega) (by omega)]
      by_cases ge : T (b + j) = tl (sB p) j
      · rw [if_pos ge, e3]
        exact ih (j + 1) (by omega) (by omega) fun i hi => by
          by_cases e : i = j
          · rw [e]; exact ge
          · exact hpre i (by omega)
      · rw [if_neg ge, if_neg (fun h => ge (by rw [etl, ← h, LT_get m j (by omega)]))]
theorem sB_r : ∀ (p : Fin 35), ∀ j : Nat, j < (sB p.val).length → 0 ≤ tl (sB p.val) j ∧ tl (sB p.val) j ≤ 127 := by decide +kernel
theorem is8_eq {X : Mem} {T : Int → Int} {n b e k w v : Int} {p : Nat} (hT : TXT T n) (hK : TK T n b e k w v) (hC : CS X T n b e k w v) (hp : p < 35) : f_X8_is p X = some (if k = 1 ∧ LT T b (e - b).toNat = sB p then 1 else 0, X) := by
  obtain ⟨c1, c2, c3, c4, c5, -⟩ := hC
  have hn := hT.1
  have hlp := len_sB ⟨p, hp⟩
  have hlp : (sB p).length ≤ 200 := hlp
  have hkr : 0 ≤ k ∧ k ≤ 4 := by
    rcases hK.2 with ⟨h, -⟩ | ⟨h, -⟩ | ⟨h, -⟩ | ⟨h, -⟩ | ⟨h, -⟩ <;> omega
  obtain ⟨⟨h1, h2, h3⟩, -⟩ := hK
  unfold f_X8_is
  rw [bd_eq, c4, c2_ok (by omega) (by omega) (by decide) (by decide)]
  by_cases g : k = 1
  · rw [if_neg (by simpa using g), c3, c5, c2_ok (by omega) (by omega) (by omega) (by omega)]
    by_cases gl : ((sB p).length : Int) = e - b
    · have em : (e - b).toNat = (sB p).length := by omega
      have h30 := is_30 (X := X) (m := (sB p).length) hT c1 c5 h1 (by omega) rfl (sB_r ⟨p, hp⟩) KF 0 (by omega) (by rw [KF_eq]; omega) (fun i hi => by omega)
      have h30 : L_X8_is_30 KF p (sB p).length 0 X = _ := h30
      rw [if_pos gl, h30, em]
      by_cases gg : LT T b (sB p).length = sB p
      · rw [if_pos gg, if_pos ⟨g, gg⟩]
      · rw [if_neg gg, if_neg (fun h => gg h.2)]
    · rw [if_neg gl, if_neg (fun h => gl (by rw [← h.2, LT_len]; omega))]
  · rw [if_pos g, if_neg (fun h => g h.1)]
/-- the place of a token in a row of words -/
def tw (T : Int → Int) (b e k : Int) (ws : List (List Int)) : Int := if k = 1 then wixa (LT T b (e - b).toNat) ws 0 else -1
theorem tw_r {T : Int → Int} {b e k : Int} {ws : List (List Int)} : tw T b e k ws = -1 ∨ (0 ≤ tw T b e k ws ∧ tw T b e k ws < ws.length) := by
  unfold tw
  split
  · have := wixa_r (L := LT T b (e - b).toNat) ws 0
    omega
  · exact Or.inl rfl
theorem tw_is {T : Int → Int} {b e k : Int} {ws : List (List Int)} {W : List Int} (hn : ws.Nodup) {q : Nat} (hq : q < ws.length) (hW : ws.getD q [] = W) : (k = 1 ∧ LT T b (e - b).toNat = W) ↔ tw T b e k ws = q := by
  unfold tw
  constructor
  · rintro ⟨h1, h2⟩
    rw [if_pos h1, h2, ← hW, wixa_of hn 0 q hq]
    omega
  · intro h
    by_cases g : k = 1
    · rw [if_pos g] at h
      have := wixa_get (L := LT T b (e - b).toNat) ws 0 q (Int.le_refl _) (by omega)
      exact ⟨g, by rw [this.2, hW]⟩
    · rw [if_neg g] at h
      omega
/-- the class's code of reserved words -/
noncomputable def rcode (i : Nat) : Int := ((sB 3).take i).foldl (fun v x => if x = 32 then 0 else v * 32 + (x - 97 + 1)) 0
theorem rc_f : (sB 3).length = 107 ∧ ∀ i : Nat, i < 107 → (-1 ≤ tl (sB 3) i ∧ tl (sB 3) i ≤ 127) ∧ (0 ≤ rcode i ∧ rcode i ≤ 1100000000000) ∧ rcode (i + 1) = if tl (sB 3) i = 32 then 0 else rcode i * 32 + (tl (sB 3) i - 97 + 1) := by decide +kernel
theorem rc_s : ∀ i : Nat, i < 107 → tl (sB 3) i = 32 → rcode i ∈ WS33.map c5 := by decide +kernel
theorem rc_e : ∀ c ∈ WS33.map c5, ∃ i : Fin 107, tl (sB 3) i.val = 32 ∧ rcode i.val = c := by decide +kernel
theorem reserved_4 {X : Mem} {w : Int} (h6 : X 35 6 = w) (hw : -9223372036854775808 ≤ w ∧ w ≤ 9223372036854775807) : ∀ (K i : Nat), i ≤ 107 → 107 - i < K → ((∃ j : Nat, i ≤ j ∧ j < 107 ∧ tl (sB 3) j = 32 ∧ rcode j = w) → L_X8_isReserved_4 K (rcode i) i X = some (1, X)) ∧ ((∀ j : Nat, i ≤ j → j < 107 → tl (sB 3) j = 32 → rcode j ≠ w) → L_X8_isReserved_4 K (rcode i) i X = some (0, X)) := by
  obtain ⟨f0, f1⟩ := rc_f
  intro K
  induction K with
  | zero => intro i _ h; omega
  | succ K ih =>
    intro i hi hK
    rw [L_X8_isReserved_4, f0, c2_ok (by omega) (by omega) (by decide) (by decide)]
    by_cases g : ((107 : Nat) : Int) ≤ (i : Int)
    · rw [if_pos g]
      exact ⟨fun ⟨j, j1, j2, _⟩ => by omega, fun _ => rfl⟩
    · obtain ⟨a1, a2, a3⟩ := f1 i (by omega)
      have e3 : (i : Int) + 1 = ((i + 1 : Nat) : Int) := rfl
      obtain ⟨i1, i2⟩ := ih (i + 1) (by omega) (by omega)
      rw [if_neg g, ax_ok (by omega) (by omega), bd_eq, c2_ok (by omega) (by omega) (by decide) (by decide)]
      by_cases gs : tl (sB 3) i = 32
      · rw [if_pos gs] at a3
        rw [if_pos gs, h6, d2_ok (by omega) (by omega) (by omega) (by omega)]
        by_cases gw : rcode i = w
        · rw [if_neg (by simpa using gw)]
          exact ⟨fun _ => rfl, fun h => absurd gw (h i (Nat.le_refl _) (by omega) gs)⟩
        · rw [a3] at i1 i2
          rw [if_pos gw, B_X8_isReserved_59, e3]
          refine ⟨fun ⟨j, j1, j2, j3, j4⟩ => i1 ⟨j, ?_, j2, j3, j4⟩, fun h => i2 fun j j1 j2 => h j (by omega) j2⟩
          by_cases e : j = i
          · rw [e] at j4
            exact absurd j4 gw
          · omega
      · rw [if_neg gs] at a3
        rw [a3] at i1 i2
        rw [if_neg gs, c1_okk (by omega) (by omega), bd_eq, B_X8_isReserved_59, e3]
        refine ⟨fun ⟨j, j1, j2, j3, j4⟩ => i1 ⟨j, ?_, j2, j3, j4⟩, fun h => i2 fun j j1 j2 => h j (by omega) j2⟩
        by_cases e : j = i
        · rw [e] at j3
          exact absurd j3 gs
        · omega
theorem ws_low : ∀ W ∈ WS33, ∀ x ∈ W, 97 ≤ x ∧ x ≤ 122 := by decide +kernel
theorem mem_wixa {L : List Int} : ∀ (ws : List (List Int)) (i : Int), 0 ≤ i → (L ∈ ws ↔ wixa L ws i ≠ -1)
  | [], i, _ => by
    constructor
    · intro h; exact absurd h (List.not_mem_nil)
    · intro h; exact absurd rfl h
  | W :: ws, i, h0 => by
    have ih := mem_wixa (L := L) ws (i + 1) (by omega)
    unfold wixa
    rw [List.mem_cons]
    by_cases g : L = W
    · rw [if_pos g]
      exact ⟨fun _ => by omega, fun _ => Or.inl g⟩
    · rw [if_neg g]
      exact ⟨fun h => ih.mp (h.resolve_left g), fun h => Or.inr (ih.mpr h)⟩
theorem reserved_eq {X : Mem} {L : List Int} (hL : ∀ x ∈ L, 97 ≤ x ∧ x ≤ 122) (hl : L.length ≤ 8) (h6 : X 35 6 = c5 L) : f_X8_isReserved X = some (if wixa L WS33 0 ≠ -1 then 1 else 0, X) := by
  have hr := c5_r L hL
  have h32 : (32 : Int) ^ L.length ≤ 1099511627776 := by
    have : ∀ m : Fin 9, (32 : Int) ^ m.val ≤ 1099511627776 := by decide +kernel
    exact this ⟨L.length, by omega⟩
  obtain ⟨h1, h2⟩ := reserved_4 (X := X) h6 (by omega) KF 0 (by omega) (by rw [KF_eq]; omega)
  have e0 : ∀ o : Option (Int × Mem), L_X8_isReserved_4 KF (rcode 0) ((0 : Nat) : Int) X = o → f_X8_isReserved X = o := fun o ho => ho
  by_cases g : wixa L WS33 0 ≠ -1
  · rw [if_pos g]
    refine e0 _ (h1 ?_)
    have hm := (mem_wixa WS33 0 (Int.le_refl _)).mpr g
    obtain ⟨i, i1, i2⟩ := rc_e (c5 L) (List.mem_map.mpr ⟨L, hm, rfl⟩)
    exact ⟨i.val, by omega, i.isLt, i1, i2⟩
  · rw [if_neg g]
    refine e0 _ (h2 fun j _ j1 j2 e => g ?_)
    have hm := rc_s j j1 j2
    rw [e] at hm
    obtain ⟨W, w1, w2⟩ := List.mem_map.mp hm
    have : W = L := c5_inj W L (ws_low W w1) hL w2
    rw [this] at w1
    exact (mem_wixa WS33 0 (Int.le_refl _)).mp w1
/-- a NAME stands here -/
abbrev isNm (T : Int → Int) (b e k : Int) : Prop := k = 1 ∧ e - b ≤ 8 ∧ tw T b e k WS33 = -1
def flC (X : Mem) (f b : Int) : Mem := ms (ms X 35 9 f) 35 10 b
def flM (Z : Mem) (f b : Int) : Mem := ms (ms Z 120 18 f) 120 17 b
theorem failHere_eq {X : Mem} {T : Int → Int} {n b e k w v : Int} (hK : TK T n b e k w v) (hC : CS X T n b e k w v) : f_X8_failHere X = some (0, flC X (if k = 4 then 1 else 2) b) := by
  obtain ⟨c1, c2, c3, c4, c5, -⟩ := hC
  have hkr : 0 ≤ k ∧ k ≤ 4 := by
    rcases hK.2 with ⟨h, -⟩ | ⟨h, -⟩ | ⟨h, -⟩ | ⟨h, -⟩ | ⟨h, -⟩ <;> omega
  have hb : ∀ f : Int, ms X 35 9 f 35 5 = b := fun f => by rw [ms_at, if_neg (by omega)]; exact c5
  unfold f_X8_failHere
  rw [c4, c2_ok (by omega) (by omega) (by decide) (by decide)]
  by_cases g : k = 4
  · rw [if_neg (by simpa using g), if_pos g, B_X8_failHere_14, bd_eq, hb, bd_eq]
    rfl
  · rw [if_pos g, if_neg g, B_X8_failHere_14, bd_eq, hb, bd_eq]
    rfl
theorem fail8_eq {X : Mem} {T : Int → Int} {n b e k w v f : Int} (hC : CS X T n b e k w v) : f_X8_fail f X = some (0, flC X f b) := by
  obtain ⟨c1, c2, c3, c4, c5, -⟩ := hC
  have hb : ∀ f : Int, ms X 35 9 f 35 5 = b := fun f => by rw [ms_at, if_neg (by omega)]; exact c5
  unfold f_X8_fail
  rw [bd_eq, hb, bd_eq]
  rfl
theorem fails_eq {Z : Mem} {T : Int → Int} {n b e k w v x f : Int} (hK : TK T n b e k w v) (hM : MS Z T n b e k x) (h18 : Z 120 18 = 0) : f_X12_fails f Z = some (0, flM Z (if k = 4 then 1 else f) b) := by
  obtain ⟨m1, m2, m3, m4, m5, -⟩ := hM
  have hb : ∀ f : Int, ms Z 120 18 f 120 13 = b := fun f => by rw [ms_at, if_neg (by omega)]; exact m4
  have hk1 : km k = 1 ↔ k = 4 := by
    unfold km
    rcases hK.2 with ⟨h, -⟩ | ⟨h, -⟩ | ⟨h, -⟩ | ⟨h, -⟩ | ⟨h, -⟩ <;> subst h <;> decide
  have hkr : 0 ≤ km k ∧ km k ≤ 4 := by
    unfold km
    rcases hK.2 with ⟨h, -⟩ | ⟨h, -⟩ | ⟨h, -⟩ | ⟨h, -⟩ | ⟨h, -⟩ <;> subst h <;> decide
  unfold f_X12_fails
  rw [h18, c1_okk (by decide) (by decide), if_neg (by decide), m3, c2_ok (by omega) (by omega) (by decide) (by decide)]
  by_cases g : k = 4
  · rw [if_neg (by simpa using hk1.mpr g), if_pos g, B_X12_fails_21, bd_eq, hb, bd_eq]
    rfl
  · rw [if_pos (fun h => g (hk1.mp h)), if_neg g, B_X12_fails_21, bd_eq, hb, bd_eq]
    rfl
theorem LT_low {T : Int → Int} {n b e k w v : Int} (hK : TK T n b e k w v) (hk : k = 1) : ∀ x ∈ LT T b (e - b).toNat, 97 ≤ x ∧ x ≤ 122 := by
  rcases hK.2 with ⟨h, -⟩ | ⟨-, -, h, -⟩ | ⟨h, -⟩ | ⟨h, -⟩ | ⟨h, -⟩
  · omega
  · exact LT_mem (P := fun x => 97 ≤ x ∧ x ≤ 122) _ h
  · omega
  · omega
  · omega
theorem c5_pos {L : List Int} (h : ∀ x ∈ L, 97 ≤ x ∧ x ≤ 122) (hL : 1 ≤ L.length) : c5 L ≠ 0 := fun e => by
  have := c5_inj L [] h (fun x hx => absurd hx (List.not_mem_nil)) e
  rw [this] at hL
  simp at hL
theorem isName8_eq {X : Mem} {T : Int → Int} {n b e k w v : Int} (hK : TK T n b e k w v) (hC : CS X T n b e k w v) : f_X8_isName X = if isNm T b e k then some (1, X) else some (0, flC X (if k = 4 then 1 else 2) b) := by
  have hfl := failHere_eq hK hC
  have h24 : B_X8_isName_24 X = some (0, flC X (if k = 4 then 1 else 2) b) := by
    rw [B_X8_isName_24, hfl, cl_some, c1_okk (by decide) (by decide), if_pos rfl]
  obtain ⟨c1, c2, c3, c4, c5', c6, -⟩ := hC
  have hkr : 0 ≤ k ∧ k ≤ 4 := by
    rcases hK.2 with ⟨h, -⟩ | ⟨h, -⟩ | ⟨h, -⟩ | ⟨h, -⟩ | ⟨h, -⟩ <;> omega
  unfold f_X8_isName
  rw [c4, c2_ok (by omega) (by omega) (by decide) (by decide)]
  by_cases g : k = 1
  · have hlow := LT_low hK g
    have hw : w = cwk T b (e - b).toNat ∧ b < e := by
      rcases hK.2 with ⟨h, -⟩ | ⟨-, h1, -, h2⟩ | ⟨h, -⟩ | ⟨h, -⟩ | ⟨h, -⟩
      · omega
      · exact ⟨h2, h1⟩
      · omega
      · omega
      · omega
    rw [if_neg (by simpa using g), c6 g, hw.1]
    by_cases g8 : e - b ≤ 8
    · have e8 : cwk T b (e - b).toNat = c5 (LT T b (e - b).toNat) := by
        unfold cwk
        rw [if_pos (by omega)]
      have hr := c5_r _ hlow
      have h32 : (32 : Int) ^ (LT T b (e - b).toNat).length ≤ 1099511627776 := by
        have : ∀ m : Fin 9, (32 : Int) ^ m.val ≤ 1099511627776 := by decide +kernel
        exact this ⟨(LT T b (e - b).toNat).length, by rw [LT_len]; omega⟩
      have hres := reserved_eq (X := X) hlow (by rw [LT_len]; omega) (by rw [c6 g, hw.1, e8])
      have hne : c5 (LT T b (e - b).toNat) ≠ 0 := c5_pos hlow (by rw [LT_len]; omega)
      rw [e8, d2_ok (by omega) (by omega) (by decide) (by decide), if_neg hne, hres, cl_some]
      by_cases gr : wixa (LT T b (e - b).toNat) WS33 0 ≠ -1
      · rw [if_pos gr, c1_okk (by decide) (by decide), if_neg (by decide), h24, if_neg (show ¬ isNm T b e k from fun h => gr (by
          have := h.2.2
          unfold tw at this
          rw [if_pos g] at this
          exact this))]
      · rw [if_neg gr, c1_okk (by decide) (by decide), if_pos rfl, if_pos ⟨g, g8, by
          unfold tw
          rw [if_pos g]
          exact Decidable.not_not.mp gr⟩]
    · have e8 : cwk T b (e - b).toNat = 0 := by
        unfold cwk
        rw [if_neg (by omega)]
      rw [e8, d2_ok (by decide) (by decide) (by decide) (by decide), if_pos rfl, h24, if_neg (show ¬ isNm T b e k from fun h => g8 h.2.1)]
  · rw [if_pos g, h24, if_neg (show ¬ isNm T b e k from fun h => g h.1)]
theorem isNamem_eq {Z : Mem} {T : Int → Int} {n b e k w v x : Int} (hT : TXT T n) (hK : TK T n b e k w v) (hM : MS Z T n b e k x) : f_X12_isName 33 Z = some (if isNm T b e k then 1 else 0, Z) := by
  have hin := inWords_eq (ws := WS33) hT hK hM (p := 33) (len_sB 33) pw33 (by decide)
  obtain ⟨m1, m2, m3, m4, m5, -⟩ := hM
  have hn := hT.1
  have hk2 : km k = 2 ↔ k = 1 := by
    unfold km
    rcases hK.2 with ⟨h, -⟩ | ⟨h, -⟩ | ⟨h, -⟩ | ⟨h, -⟩ | ⟨h, -⟩ <;> subst h <;> decide
  have hkr : 0 ≤ km k ∧ km k ≤ 4 := by
    unfold km
    rcases hK.2 with ⟨h, -⟩ | ⟨h, -⟩ | ⟨h, -⟩ | ⟨h, -⟩ | ⟨h, -⟩ <;> subst h <;> decide
  have h3 := hK.1
  unfold f_X12_isName
  rw [m3, c2_ok (by omega) (by omega) (by decide) (by decide)]
  by_cases g : k = 1
  · rw [if_neg (by simpa using hk2.mpr g), m4, m5, c2_ok (by omega) (by omega) (by omega) (by omega)]
    by_cases g8 : 8 < e - b
    · rw [if_pos g8, if_neg (fun h => by have := h.2.1; omega)]
    · have htw := tw_r (T := T) (b := b) (e := e) (k := k) (ws := WS33)
      have hlen : (WS33.length : Int) = 20 := rfl
      have hin : f_X12_inWords 33 Z = some (tw T b e k WS33, Z) := hin
      rw [if_neg g8, hin, cl_some, c2_ok (by omega) (by omega) (by decide) (by decide)]
      by_cases gr : tw T b e k WS33 = -1
      · rw [if_neg (by simpa using gr), if_pos ⟨g, by omega, gr⟩]
      · rw [if_pos gr, if_neg (fun h => gr h.2.2)]
  · rw [if_pos (fun h => g (hk2.mp h)), if_neg (fun h => g h.1)]
/-- the reference's code of a name -/
theorem sh8 (x : Int64) : x <<< ((Int32.ofInt 8).toInt64 &&& 63) = ⟨⟨x.toBitVec <<< 8⟩⟩ := by
  have : ((Int32.ofInt 8).toInt64 &&& 63) = 8 := by decide +kernel
  rw [this]
  apply Int64.toBitVec_inj.mp
  rw [Int64.toBitVec_shiftLeft]
  rfl
theorem lo_sh : ∀ (x : Int) (r : Int), 0 ≤ x → x < 36028797018963968 → 0 ≤ r → r < 256 → lo (lshl x 8) r = x * 256 + r := by
  intro x r x0 x1 r0 r1
  obtain ⟨x, rfl⟩ : ∃ n : Nat, x = n := ⟨x.toNat, by omega⟩
  obtain ⟨r, rfl⟩ : ∃ n : Nat, r = n := ⟨r.toNat, by omega⟩
  unfold lo lshl
  rw [Int64.ofInt_toInt, sh8]
  have e : ((⟨⟨(Int64.ofInt (x : Int)).toBitVec <<< 8⟩⟩ : Int64) ||| Int64.ofInt (r : Int)).toBitVec = BitVec.ofNat 64 (x * 256 + r) := by
    rw [Int64.toBitVec_or]
    apply BitVec.eq_of_toNat_eq
    have h1 : (Int64.ofInt (x : Int)).toBitVec = BitVec.ofNat 64 x := by
      rw [Int64.toBitVec_ofInt]
      exact BitVec.ofInt_natCast 64 x
    have h2 : (Int64.ofInt (r : Int)).toBitVec = BitVec.ofNat 64 r := by
      rw [Int64.toBitVec_ofInt]
      exact BitVec.ofInt_natCast 64 r
    have h3 : (⟨⟨(Int64.ofInt (x : Int)).toBitVec <<< 8⟩⟩ : Int64).toBitVec = BitVec.ofNat 64 x <<< 8 := by
      rw [← h1]
      rfl
    rw [h3, h2, BitVec.toNat_or, BitVec.toNat_shiftLeft, BitVec.toNat_ofNat, BitVec.toNat_ofNat, BitVec.toNat_ofNat]
    have a1 : x % 2 ^ 64 = x := Nat.mod_eq_of_lt (by omega)
    have a2 : r % 2 ^ 64 = r := Nat.mod_eq_of_lt (by omega)
    have a3 : (x * 256 + r) % 2 ^ 64 = x * 256 + r := Nat.mod_eq_of_lt (by omega)
    have a4 : x <<< 8 = x * 256 := Nat.shiftLeft_eq x 8
    have a5 : (x <<< 8) % 2 ^ 64 = x <<< 8 := Nat.mod_eq_of_lt (by rw [a4]; omega)
    rw [a1, a2, a3, a5, ← Nat.shiftLeft_add_eq_or_of_lt (by omega : r < 2 ^ 8), a4]
  show BitVec.toInt _ = _
  rw [e, BitVec.toInt_eq_toNat_of_lt (by rw [BitVec.toNat_ofNat]; omega), BitVec.toNat_ofNat, Nat.mod_eq_of_lt (by omega)]
  omega
theorem c8_r2 (L : List Int) (h : ∀ x ∈ L, 97 ≤ x ∧ x ≤ 122) : 0 ≤ c8 L ∧ 2 * c8 L < 256 ^ L.length := by
  revert h
  refine rev_ind (P := fun L => (∀ x ∈ L, 97 ≤ x ∧ x ≤ 122) → 0 ≤ c8 L ∧ 2 * c8 L < 256 ^ L.length) (fun _ => ⟨by decide, by decide⟩) (fun L x ih h => ?_) L
  have i1 := ih fun y hy => h y (List.mem_append_left _ hy)
  have i2 := h x (List.mem_append_right _ (List.mem_singleton.mpr rfl))
  rw [c8_app, List.length_append, List.length_singleton, Int.pow_succ]
  omega
theorem nameHere_7 {Z : Mem} {T : Int → Int} {n b e k w v x : Int} (hT : TXT T n) (hK : TK T n b e k w v) (hM : MS Z T n b e k x) (hk : k = 1) (h8 : e - b ≤ 8) : ∀ (K j : Nat), j ≤ (e - b).toNat → (e - b).toNat - j < K → L_X12_nameHere_7 K (c8 (LT T b j)) (b + j) Z = some (c8 (LT T b (e - b).toNat), Z) := by
  obtain ⟨m1, m2, m3, m4, m5, -⟩ := hM
  have hn := hT.1
  have h3 := hK.1
  have hl : ∀ i : Nat, i < (e - b).toNat → 97 ≤ T (b + i) ∧ T (b + i) ≤ 122 := by
    rcases hK.2 with ⟨h, -⟩ | ⟨-, -, h, -⟩ | ⟨h, -⟩ | ⟨h, -⟩ | ⟨h, -⟩
    · omega
    · exact h
    · omega
    · omega
    · omega
  intro K
  induction K with
  | zero => intro j _ h; omega
  | succ K ih =>
    intro j hj hK
    rw [L_X12_nameHere_7, m5, c2_ok (by omega) (by omega) (by omega) (by omega)]
    by_cases g : e ≤ b + (j : Int)
    · rw [if_pos g, show (e - b).toNat = j by omega]
    · have ht := hl j (by omega)
      have hr := c8_r2 (LT T b j) (LT_mem (P := fun x => 97 ≤ x ∧ x ≤ 122) j fun i hi => hl i (by omega))
      rw [LT_len] at hr
      have h256 : (256 : Int) ^ j ≤ 72057594037927936 := by
        have : ∀ m : Fin 8, (256 : Int) ^ m.val ≤ 72057594037927936 := by decide +kernel
        exact this ⟨j, by omega⟩
      have hsmall : c8 (LT T b j) < 36028797018963968 := by omega
      have e3 : b + (j : Int) + 1 = b + ((j + 1 : Nat) : Int) := by omega
      rw [if_neg g, byteAt_z hT m1 m2 (by omega) (by omega), if_pos (by omega), if_neg (by omega), cl_some, c1_okk (by omega) (by omega), lo_sh _ _ hr.1 hsmall (by omega) (by omega), bd_eq, ← c8_app, e3]
      exact ih (j + 1) (by omega) (by omega)
