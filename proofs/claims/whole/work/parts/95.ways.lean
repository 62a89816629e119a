/-! ways: what fixed points have in common -/
theorem dhh_tri : ∀ (a b c : Fin 8), dhh (a.val : Int) (c.val : Int) ≤ dhh (a.val : Int) (b.val : Int) + dhh (b.val : Int) (c.val : Int) := by decide +kernel
theorem dhh_rng : ∀ (a c : Fin 8), 0 ≤ dhh (a.val : Int) (c.val : Int) ∧ dhh (a.val : Int) (c.val : Int) ≤ 4 := by decide +kernel
theorem fin8 {h : Int} (h0 : 0 ≤ h) (h1 : h < 8) : ∃ a : Fin 8, (a.val : Int) = h := ⟨⟨h.toNat, by omega⟩, Int.toNat_of_nonneg h0⟩
theorem trn_tri {A : Int → Int} (hB : BD A) {h k g : Int} (h0 : 0 ≤ h) (h1 : h < 9) (k0 : 0 ≤ k) (k1 : k < 8) (g0 : 0 ≤ g) (g1 : g < 8) : trn A h g ≤ trn A h k + trn A k g := by
  obtain ⟨-, -, -, -, -, -, -, -, h9, -⟩ := hB
  obtain ⟨k, rfl⟩ := fin8 k0 k1
  obtain ⟨g, rfl⟩ := fin8 g0 g1
  have hk := dhh_rng k g
  unfold trn
  rw [if_neg (show ¬ (k.val : Int) = 8 by omega)]
  by_cases e : h = 8
  · rw [if_pos e, if_pos e, Int.zero_add]
    exact Int.mul_nonneg h9.1 hk.1
  · obtain ⟨h, rfl⟩ := fin8 h0 (by omega)
    rw [if_neg e, if_neg e, ← Int.mul_add]
    exact Int.mul_le_mul_of_nonneg_left (dhh_tri h k g) h9.1
theorem trn_r {A : Int → Int} (hB : BD A) {h g : Int} (h0 : 0 ≤ h) (h1 : h < 9) (g0 : 0 ≤ g) (g1 : g < 8) : 0 ≤ trn A h g ∧ trn A h g ≤ 396 := by
  obtain ⟨-, -, -, -, -, -, -, -, h9, -⟩ := hB
  unfold trn
  by_cases e : h = 8
  · rw [if_pos e]
    omega
  · obtain ⟨h, rfl⟩ := fin8 h0 (by omega)
    obtain ⟨g, rfl⟩ := fin8 g0 g1
    have hk := dhh_rng h g
    rw [if_neg e]
    have := Int.mul_le_mul h9.2 hk.2 hk.1 (by omega : (0 : Int) ≤ 99)
    exact ⟨Int.mul_nonneg h9.1 hk.1, by omega⟩
theorem stp_r {A : Int → Int} (hB : BD A) {g : Int} : 1 ≤ stp A g ∧ stp A g ≤ 99 := by
  obtain ⟨-, -, -, -, -, -, h7, h8, -⟩ := hB
  unfold stp
  split <;> omega
section WAYS
variable {A : Int → Int} {nd a to : Int} {V : Int → Int → Int}
/-- one step of a soonest way -/
def sp1 (A : Int → Int) (nd a : Int) (V : Int → Int → Int) (c h n g : Int) : Prop := (0 ≤ g ∧ g < 8) ∧ ld A c g ≠ -1 ∧ n = ld A c g ∧ opn A nd a n ∧ V n g ≠ FAR ∧ V c h = stp A g + trn A h g + V n g
/-- ways backwards, the latest cell first -/
def och (A : Int → Int) (nd a to : Int) (V : Int → Int → Int) : List (Int × Int) → Prop
  | [] => False
  | [s] => (0 ≤ s.1 ∧ s.1 < A 0 * A 1) ∧ (0 ≤ s.2 ∧ s.2 < 9) ∧ opn A nd a s.1 ∧ V s.1 s.2 ≠ FAR
  | t :: s :: l => och A nd a to V (s :: l) ∧ s.1 ≠ to ∧ sp1 A nd a V s.1 s.2 t.1 t.2
theorem och_head (hB : BD A) : ∀ (l : List (Int × Int)) (t : Int × Int), och A nd a to V (t :: l) → (0 ≤ t.1 ∧ t.1 < A 0 * A 1) ∧ (0 ≤ t.2 ∧ t.2 < 9) ∧ (l ≠ [] → t.2 < 8) ∧ opn A nd a t.1 ∧ V t.1 t.2 ≠ FAR
  | [], t, h => ⟨h.1, h.2.1, fun e => absurd rfl e, h.2.2.1, h.2.2.2⟩
  | s :: l, t, h => by
    obtain ⟨h1, h2, ⟨g0, g1⟩, h4, h5, h6, h7, h8⟩ := h
    have hr := ld_r hB h4
    rw [← h5] at hr
    exact ⟨hr, ⟨g0, by omega⟩, fun _ => g1, h6, h7⟩
theorem och_all (hB : BD A) : ∀ (l : List (Int × Int)) (t : Int × Int), och A nd a to V (t :: l) → ∀ s ∈ l, (0 ≤ s.1 ∧ s.1 < A 0 * A 1) ∧ (0 ≤ s.2 ∧ s.2 < 9) ∧ opn A nd a s.1 ∧ s.1 ≠ to ∧ 1 + trn A s.2 t.2 + V t.1 t.2 ≤ V s.1 s.2
  | [], _, _, s, hs => absurd hs (List.not_mem_nil)
  | s' :: l, t, h, s, hs => by
    obtain ⟨h1, h2, hsp⟩ := h
    obtain ⟨⟨g0, g1⟩, h4, h5, h6, h7, h8⟩ := hsp
    have hh := och_head hB l s' h1
    have hst := stp_r hB (g := t.2)
    rcases List.mem_cons.mp hs with e | hm
    · subst e
      exact ⟨hh.1, hh.2.1, hh.2.2.2.1, h2, by omega⟩
    · obtain ⟨i1, i2, i3, i4, i5⟩ := och_all hB l s' h1 s hm
      have hl : l ≠ [] := by
        intro e
        rw [e] at hm
        exact absurd hm (List.not_mem_nil)
      have ht := trn_tri hB (h := s.2) (k := s'.2) (g := t.2) i2.1 i2.2 hh.2.1.1 (hh.2.2.1 hl) g0 g1
      exact ⟨i1, i2, i3, i4, by omega⟩
theorem lip (hB : BD A) (hF : FIX A nd a to V) {c h k : Int} (c0 : 0 ≤ c) (c1 : c < A 0 * A 1) (h0 : 0 ≤ h) (h1 : h < 9) (k0 : 0 ≤ k) (k1 : k < 8) (ho : opn A nd a c) (hc : c ≠ to) (hV : V c k ≠ FAR) : V c h ≤ trn A h k + V c k := by
  obtain ⟨-, -, -, f4⟩ := hF c c0 c1 k k0 (by omega)
  obtain ⟨-, -, -, g4⟩ := hF c c0 c1 h h0 h1
  rcases (f4 ho hc).2 with e | ⟨g, g0, g1, e1, e2, e3, e4⟩
  · exact absurd e hV
  · have := (g4 ho hc).1 g g0 g1 e1 e2 e3
    have := trn_tri hB (h := h) (k := k) (g := g) h0 h1 k0 k1 g0 g1
    omega
theorem och_nodup (hB : BD A) (hF : FIX A nd a to V) : ∀ l : List (Int × Int), och A nd a to V l → (l.map fun s => s.1).Nodup ∧ ∀ x ∈ l.map fun s => s.1, 0 ≤ x ∧ x < A 0 * A 1
  | [], h => h.elim
  | [s], h => ⟨by simp, fun x hx => by
      rw [List.map_cons, List.map_nil, List.mem_singleton] at hx
      rw [hx]
      exact h.1⟩
  | t :: s :: l, h => by
    have ih := och_nodup hB hF (s :: l) h.1
    have hh := och_head hB (s :: l) t h
    refine ⟨?_, fun x hx => ?_⟩
    · rw [List.map_cons, List.nodup_cons]
      refine ⟨fun hm => ?_, ih.1⟩
      obtain ⟨u, hu, e⟩ := List.mem_map.mp hm
      obtain ⟨i1, i2, i3, i4, i5⟩ := och_all hB (s :: l) t h u hu
      have hL := lip hB hF (c := u.1) (h := u.2) (k := t.2) i1.1 i1.2 i2.1 i2.2 hh.2.1.1 (hh.2.2.1 (by simp)) i3 i4 (by rw [e]; exact hh.2.2.2.2)
      rw [e] at i5 hL
      omega
    · rw [List.map_cons] at hx
      rcases List.mem_cons.mp hx with e | hm
      · rw [e]
        exact hh.1
      · exact ih.2 x hm
theorem och_len (hB : BD A) (hF : FIX A nd a to V) {l : List (Int × Int)} (h : och A nd a to V l) : l.length ≤ 60 := by
  obtain ⟨h1, h2⟩ := och_nodup hB hF l h
  have hc := BD_cells hB
  have := h1.length_le_of_subset (l₂ := (List.range 60).map fun (n : Nat) => (n : Int)) (fun x hx => by
    obtain ⟨a1, a2⟩ := h2 x hx
    exact List.mem_map.mpr ⟨x.toNat, List.mem_range.mpr (by omega), Int.toNat_of_nonneg a1⟩)
  rw [List.length_map, List.length_map, List.length_range] at this
  exact this
/-- so many steps at most to the end -/
def chn (A : Int → Int) (nd a to : Int) (V : Int → Int → Int) : Nat → Int → Int → Prop
  | 0, c, _ => c = to
  | n + 1, c, h => c = to ∨ (c ≠ to ∧ ∃ n' g, sp1 A nd a V c h n' g ∧ chn A nd a to V n n' g)
theorem chn_of (hB : BD A) (hF : FIX A nd a to V) : ∀ (m : Nat) (l : List (Int × Int)) (s : Int × Int), och A nd a to V (s :: l) → l.length + 1 + m = 60 → chn A nd a to V m s.1 s.2
  | 0, l, s, h, hl => by
    by_cases e : s.1 = to
    · exact e
    · have hh := och_head hB l s h
      obtain ⟨-, -, -, f4⟩ := hF s.1 hh.1.1 hh.1.2 s.2 hh.2.1.1 hh.2.1.2
      rcases (f4 hh.2.2.2.1 e).2 with e1 | ⟨g, g0, g1, e1, e2, e3, e4⟩
      · exact absurd e1 hh.2.2.2.2
      · have := och_len hB hF (l := (ld A s.1 g, g) :: s :: l) ⟨h, e, ⟨g0, g1⟩, e1, rfl, e2, e3, e4⟩
        simp only [List.length_cons] at this
        omega
  | m + 1, l, s, h, hl => by
    by_cases e : s.1 = to
    · exact Or.inl e
    · have hh := och_head hB l s h
      obtain ⟨-, -, -, f4⟩ := hF s.1 hh.1.1 hh.1.2 s.2 hh.2.1.1 hh.2.1.2
      rcases (f4 hh.2.2.2.1 e).2 with e1 | ⟨g, g0, g1, e1, e2, e3, e4⟩
      · exact absurd e1 hh.2.2.2.2
      · have hs : sp1 A nd a V s.1 s.2 (ld A s.1 g) g := ⟨⟨g0, g1⟩, e1, rfl, e2, e3, e4⟩
        exact Or.inr ⟨e, ld A s.1 g, g, hs, chn_of hB hF m (s :: l) (ld A s.1 g, g) ⟨h, e, hs⟩ (by simp only [List.length_cons]; omega)⟩
theorem chn_59 (hB : BD A) (hF : FIX A nd a to V) {c h : Int} (c0 : 0 ≤ c) (c1 : c < A 0 * A 1) (h0 : 0 ≤ h) (h1 : h < 9) (ho : opn A nd a c) (hV : V c h ≠ FAR) : chn A nd a to V 59 c h :=
  chn_of hB hF 59 [] (c, h) ⟨⟨c0, c1⟩, ⟨h0, h1⟩, ho, hV⟩ rfl
theorem chn_b (hB : BD A) (hF : FIX A nd a to V) : ∀ (n : Nat) (c h : Int), 0 ≤ c → c < A 0 * A 1 → 0 ≤ h → h < 9 → opn A nd a c → chn A nd a to V n c h → V c h ≤ 495 * n
  | 0, c, h, c0, c1, h0, h1, ho, hc => by
    have := (hF c c0 c1 h h0 h1).2.1 ho hc
    omega
  | n + 1, c, h, c0, c1, h0, h1, ho, hc => by
    rcases hc with hc | ⟨hne, n', g, ⟨⟨g0, g1⟩, e1, e2, e3, e4, e5⟩, hc⟩
    · have := (hF c c0 c1 h h0 h1).2.1 ho hc
      omega
    · have hr := ld_r hB e1
      rw [← e2] at hr
      have := chn_b hB hF n n' g hr.1 hr.2 g0 (by omega) e3 hc
      have := stp_r hB (g := g)
      have := trn_r hB h0 h1 g0 g1
      omega
theorem V_b (hB : BD A) (hF : FIX A nd a to V) {c h : Int} (c0 : 0 ≤ c) (c1 : c < A 0 * A 1) (h0 : 0 ≤ h) (h1 : h < 9) (ho : opn A nd a c) (hV : V c h ≠ FAR) : V c h ≤ 29205 := by
  have := chn_b hB hF 59 c h c0 c1 h0 h1 ho (chn_59 hB hF c0 c1 h0 h1 ho hV)
  omega
theorem FIX_le (hB : BD A) (hF : FIX A nd a to V) {W : Int → Int → Int} (hG : FIX A nd a to W) : ∀ (n : Nat) (c h : Int), 0 ≤ c → c < A 0 * A 1 → 0 ≤ h → h < 9 → opn A nd a c → chn A nd a to W n c h → W c h ≠ FAR → V c h ≤ W c h
  | 0, c, h, c0, c1, h0, h1, ho, hc, _ => by
    rw [(hF c c0 c1 h h0 h1).2.1 ho hc, (hG c c0 c1 h h0 h1).2.1 ho hc]
    exact Int.le_refl _
  | n + 1, c, h, c0, c1, h0, h1, ho, hc, hW => by
    rcases hc with hc | ⟨hne, n', g, ⟨⟨g0, g1⟩, e1, e2, e3, e4, e5⟩, hc⟩
    · rw [(hF c c0 c1 h h0 h1).2.1 ho hc, (hG c c0 c1 h h0 h1).2.1 ho hc]
      exact Int.le_refl _
    · have hr := ld_r hB e1
      rw [← e2] at hr
      have ih := FIX_le hB hF hG n n' g hr.1 hr.2 g0 (by omega) e3 hc e4
      have hb := V_b hB hG hr.1 hr.2 g0 (by omega) e3 e4
      have h4 := ((hF c c0 c1 h h0 h1).2.2.2 ho hne).1 g g0 g1 e1 (by rw [← e2]; exact e3) (by rw [← e2]; unfold FAR; omega)
      rw [← e2] at h4
      omega
theorem FIX_u (hB : BD A) {V W : Int → Int → Int} (hF : FIX A nd a to V) (hG : FIX A nd a to W) {c h : Int} (c0 : 0 ≤ c) (c1 : c < A 0 * A 1) (h0 : 0 ≤ h) (h1 : h < 9) : V c h = W c h := by
  by_cases ho : opn A nd a c
  · have k1 : V c h ≠ FAR → W c h ≤ V c h := fun e => FIX_le hB hG hF 59 c h c0 c1 h0 h1 ho (chn_59 hB hF c0 c1 h0 h1 ho e) e
    have k2 : W c h ≠ FAR → V c h ≤ W c h := fun e => FIX_le hB hF hG 59 c h c0 c1 h0 h1 ho (chn_59 hB hG c0 c1 h0 h1 ho e) e
    have b1 := (hF c c0 c1 h h0 h1).1
    have b2 := (hG c c0 c1 h h0 h1).1
    by_cases e1 : V c h = FAR
    · by_cases e2 : W c h = FAR
      · rw [e1, e2]
      · have := k2 e2
        omega
    · by_cases e2 : W c h = FAR
      · have := k1 e1
        omega
      · have := k1 e1
        have := k2 e2
        omega
  · rw [(hF c c0 c1 h h0 h1).2.2.1 ho, (hG c c0 c1 h h0 h1).2.2.1 ho]
end WAYS
