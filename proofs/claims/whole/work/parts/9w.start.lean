/-! the relation at the start -/
def E0 : Mem := xE xI
theorem finN {n : Nat} {a : Int} (a0 : 0 ≤ a) (a1 : a < n) : ∃ x : Fin n, (x.val : Int) = a := ⟨⟨a.toNat, by omega⟩, Int.toNat_of_nonneg a0⟩
theorem e0_pt : ((E0 2 0 = 3 ∧ E0 0 3 = 20) ∧ (E0 2 1 = 13 ∧ E0 0 4 = 30)) ∧ (E0 69 0 = 70 ∧ E0 69 1 = 80) ∧ (E0 86 0 = 87 ∧ E0 86 1 = 97) ∧ (E0 103 0 = 104 ∧ E0 103 1 = 114) := by decide +kernel
theorem e0_rs : (E0 0 16 = 0 ∧ E0 120 2 = 0) ∧ (E0 0 17 = 0 ∧ E0 120 3 = 0) ∧ (E0 0 18 = 1 ∧ E0 120 4 = 1) := by decide +kernel
theorem e0_r : (E0 3 0 = E0 121 0 ∧ E0 3 1 = E0 121 1 ∧ E0 3 2 = E0 121 2 ∧ E0 3 3 = E0 121 5 ∧ E0 3 4 = E0 121 6 ∧ E0 3 5 = E0 121 7 ∧ E0 3 6 = E0 121 8 ∧ E0 3 7 = E0 121 9 ∧ E0 3 8 = E0 121 10 ∧ E0 3 9 = E0 121 11 ∧ E0 3 10 = E0 121 12) := by decide +kernel
theorem e0_a : (E0 121 0 = 0 ∧ E0 121 1 = 0 ∧ E0 121 2 = 0 ∧ E0 121 3 = 0 ∧ E0 121 4 = 0 ∧ (1 ≤ E0 121 5 ∧ E0 121 5 ≤ 20) ∧ (0 ≤ E0 121 6 ∧ E0 121 6 ≤ 9) ∧ (1 ≤ E0 121 7 ∧ E0 121 7 ≤ 99) ∧ (1 ≤ E0 121 8 ∧ E0 121 8 ≤ 99) ∧ (0 ≤ E0 121 9 ∧ E0 121 9 ≤ 99) ∧ (0 ≤ E0 121 10 ∧ E0 121 10 ≤ 999) ∧ (0 ≤ E0 121 11 ∧ E0 121 11 ≤ 16) ∧ (0 ≤ E0 121 12 ∧ E0 121 12 ≤ 16) ∧ (0 ≤ E0 121 13 ∧ E0 121 13 ≤ 12) ∧ E0 121 14 = 0) := by decide +kernel
theorem e0_c : ∀ c : Fin 60, (E0 4 c.val = E0 121 (48 + c.val) ∧ E0 5 c.val = E0 121 (108 + c.val)) ∧ (0 ≤ E0 121 (48 + c.val) ∧ E0 121 (48 + c.val) ≤ 20) ∧ (-1 ≤ E0 121 (108 + c.val) ∧ E0 121 (108 + c.val) < 0) := by decide +kernel
theorem e0_d : ∀ d : Fin 12, E0 6 d.val = stg (E0 121) d.val ∧ (-9 ≤ E0 121 (16 + d.val) ∧ E0 121 (16 + d.val) ≤ 9) := by decide +kernel
theorem e0_b : ∀ b : Fin 5, ((0 ≤ E0 8 b.val ∧ E0 8 b.val ≤ 16) ∧ (0 ≤ E0 9 b.val ∧ E0 9 b.val ≤ 16) ∧ (0 ≤ E0 10 b.val ∧ E0 10 b.val ≤ 16) ∧ (0 ≤ E0 11 b.val ∧ E0 11 b.val ≤ 16)) ∧ ((0 ≤ E0 25 b.val ∧ E0 25 b.val ≤ 16) ∧ (0 ≤ E0 26 b.val ∧ E0 26 b.val ≤ 16) ∧ (0 ≤ E0 27 b.val ∧ E0 27 b.val ≤ 16) ∧ (0 ≤ E0 28 b.val ∧ E0 28 b.val ≤ 16)) := by decide +kernel
theorem e0_j : ∀ j : Fin 20, 0 ≤ E0 121 (28 + j.val) ∧ E0 121 (28 + j.val) ≤ 16 := by decide +kernel
theorem e0_u : E0 13 0 = 0 ∧ E0 2 3 = 0 ∧ E0 2 4 = 0 := by decide +kernel
theorem e0_th : (∀ q : Fin 32, 0 ≤ E0 18 q.val ∧ E0 18 q.val ≤ 1000000) ∧ sm (E0 18) 32 = 1000000 ∧ (∀ q : Fin 32, 1 ≤ q.val → E0 18 q.val = 0) ∧ E0 121 168 = E0 18 0 ∧ NS (E0 121) = 1 := by decide +kernel
theorem e0_m : E0 0 15 = 0 ∧ E0 120 53 = 0 ∧ E0 35 1 = 0 ∧ E0 120 10 = 0 ∧ E0 35 9 = -1 ∧ E0 120 16 = -1 ∧ E0 35 10 = -1 ∧ E0 120 17 = -1 ∧ E0 42 7 = 0 ∧ E0 120 36 = 0 ∧ E0 0 14 = 0 ∧ E0 120 52 = 0 ∧ E0 120 22 = 0 ∧ E0 120 31 = -1 ∧ E0 120 32 = 0 ∧ E0 120 33 = 0 ∧ E0 120 34 = 0 := by decide +kernel
theorem e0_t : ∀ t : Fin 4, E0 (61 + 2 * t.val) 1 = -1 ∧ E0 124 t.val = -1 := by decide +kernel
theorem e0_o : ∀ o : Fin 60, E0 58 o.val = 0 ∧ E0 138 o.val = 0 := by decide +kernel
theorem e0_w : ∀ q : Fin 32, E0 130 q.val = 0 := by decide +kernel
theorem e0_41 (q : Int) : E0 41 q = wF (fun _ => 0) 0 1 q := rfl
theorem e0_BD : BD (E0 121) := by
  obtain ⟨a0, a1, a2, a3, a4, a5, a6, a7, a8, a9, a10, a11, a12, a13, a14⟩ := e0_a
  refine ⟨Or.inl ⟨a0, a1⟩, by omega, by omega, by omega, a5, a6, a7, a8, a9, a10, a11, a12, a13, by omega, fun d d0 d1 => ?_, fun j j0 j1 => ?_, fun c c0 c1 => ?_, fun c c0 c1 => ?_⟩
  · obtain ⟨x, rfl⟩ := finN (n := 12) d0 d1
    exact (e0_d x).2
  · obtain ⟨x, hx⟩ := finN (n := 20) (a := j - 28) (by omega) (by omega)
    have := e0_j x
    rw [hx, show 28 + (j - 28) = j by omega] at this
    exact this
  · obtain ⟨x, rfl⟩ := finN (n := 60) c0 c1
    exact (e0_c x).2.1
  · obtain ⟨x, rfl⟩ := finN (n := 60) c0 c1
    rw [a2]
    exact (e0_c x).2.2
theorem rel_start : REL 0 (xE xI) := by
  show REL 0 E0
  obtain ⟨⟨⟨p1, p2⟩, p3, p4⟩, p5, p6, p7⟩ := e0_pt
  obtain ⟨⟨s1, s2⟩, ⟨s3, s4⟩, s5, s6⟩ := e0_rs
  obtain ⟨a0, a1, a2, a3, a4, -, -, -, -, -, -, -, -, -, a14⟩ := e0_a
  obtain ⟨u1, u2, u3⟩ := e0_u
  obtain ⟨t1, t2, t3, t4, t5⟩ := e0_th
  obtain ⟨m1, m2, m3, m4, m5, m6, m7, m8, m9, m10, m11, m12, m13, m14, m15, m16, m17⟩ := e0_m
  refine ⟨?_, ?_, ?_, ?_, ?_, ?_, ?_, ?_, ?_, ?_, ?_, ?_, ?_, ?_⟩
  · unfold RS
    rw [s1, s2, s3, s4, s5, s6]
    refine ⟨⟨by decide, by decide, rfl⟩, ⟨⟨by decide, by decide⟩, rfl⟩, ⟨⟨by decide, by decide⟩, rfl⟩⟩
  · exact ⟨Or.inl ⟨p1, p2⟩, Or.inl ⟨p3, p4⟩, p5, p6, p7⟩
  · unfold SS
    rw [p1, p3]
    refine ⟨by rw [u2, a3], by rw [u3, a4], ⟨e0_r, fun c c0 c1 => ?_, fun c c0 c1 => ?_, fun d d0 d1 => ?_, fun b b0 b1 => by omega, fun b b0 b1 => by omega, fun b b0 b1 => ?_⟩, ⟨by rw [u1, a14], fun k k0 k1 => by omega⟩, ⟨fun q q0 q1 => ?_, t2, fun q q0 q1 => ?_, fun q q0 q1 => ?_⟩, e0_BD, fun b b0 b1 => by omega⟩
    · obtain ⟨x, rfl⟩ := finN (n := 60) c0 c1
      exact (e0_c x).1.1
    · obtain ⟨x, rfl⟩ := finN (n := 60) c0 c1
      exact (e0_c x).1.2
    · obtain ⟨x, rfl⟩ := finN (n := 12) d0 d1
      exact (e0_d x).1
    · obtain ⟨x, rfl⟩ := finN (n := 5) b0 b1
      exact (e0_b x).1
    · obtain ⟨x, rfl⟩ := finN (n := 32) q0 q1
      exact t1 x
    · rw [t5] at q0
      obtain ⟨x, rfl⟩ := finN (n := 32) (a := q) (by omega) q1
      exact t3 x (by omega)
    · rw [t5] at q1
      rw [show q = 0 by omega]
      exact t4
  · rw [a3]
    decide
  · rw [p2]
    intro b b0 b1
    obtain ⟨x, rfl⟩ := finN (n := 5) b0 b1
    exact (e0_b x).2
  · refine ⟨⟨by omega, by omega, by rw [m1, m2]⟩, fun j j0 j1 => by omega⟩
  · intro t t0 t1
    obtain ⟨x, rfl⟩ := finN (n := 4) t0 t1
    exact Or.inl (e0_t x)
  · refine ⟨⟨by omega, by omega, by rw [m3, m4]⟩, fun j j0 j1 => by omega⟩
  · refine ⟨⟨?_, by rw [m5, m6]⟩, ?_, by rw [m7, m8]⟩
    · rw [m5]
      exact inI_m1
    · rw [m7]
      exact inI_m1
  · refine ⟨⟨by omega, by omega, by rw [m9, m10]⟩, fun j j0 j1 => by omega⟩
  · refine ⟨Or.inl m11, by rw [m11, m12], fun e => by omega⟩
  · refine ⟨fun q hq => ?_, fun q q0 q1 => ?_⟩
    · rw [e0_41]
      exact if_neg (by omega)
    · obtain ⟨x, rfl⟩ := finN (n := 32) q0 q1
      rw [e0_w x]
      exact ⟨by decide, by decide⟩
  · intro o o0 o1
    obtain ⟨x, rfl⟩ := finN (n := 60) o0 o1
    obtain ⟨o2, o3⟩ := e0_o x
    rw [o2, o3]
    exact ⟨⟨by decide, by decide⟩, by decide⟩
  · unfold CK
    rw [m13, m14, m15, m16, m17]
    refine ⟨⟨by decide, by decide⟩, ⟨inI_m1, inI_s (by decide) (by decide), inI_s (by decide) (by decide), by decide, by decide⟩, fun _ e => absurd rfl e⟩
