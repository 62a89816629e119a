/-! the bits of a long -/
def btl (a : Int) (i : Nat) : Bool := (Int64.ofInt a).toBitVec.getLsbD i
theorem btl_ge {a : Int} {i : Nat} (h : 64 ≤ i) : btl a i = false := BitVec.getLsbD_of_ge _ _ h
theorem btl_la {a b : Int} {i : Nat} : btl (la a b) i = (btl a i && btl b i) := by
  unfold btl la
  rw [Int64.ofInt_toInt, Int64.toBitVec_and, BitVec.getLsbD_and]
theorem btl_lo {a b : Int} {i : Nat} : btl (lo a b) i = (btl a i || btl b i) := by
  unfold btl lo
  rw [Int64.ofInt_toInt, Int64.toBitVec_or, BitVec.getLsbD_or]
theorem btl_n {a : Int} {i : Nat} (h : i < 64) : btl (lx a (-1)) i = !btl a i := by
  unfold btl lx
  rw [Int64.ofInt_toInt, Int64.toBitVec_xor, BitVec.getLsbD_xor, show (Int64.ofInt (-1)).toBitVec = BitVec.allOnes 64 from by decide, BitVec.getLsbD_allOnes, decide_eq_true h, Bool.xor_true]
theorem lsh_k : ∀ k : Fin 64, (((Int32.ofInt (k.val : Int)).toInt64 &&& 63).toBitVec.smod 64).toNat = k.val := by decide +kernel
theorem lus_k : ∀ k : Fin 64, (((Int32.ofInt (k.val : Int)).toInt64.toUInt64 &&& Int64.toUInt64 63).toBitVec % 64).toNat = k.val := by decide +kernel
theorem btl_lshl {a : Int} {k i : Nat} (hk : k < 64) : btl (lshl a k) i = (decide (i < 64) && !decide (i < k) && btl a (i - k)) := by
  unfold btl lshl
  rw [Int64.ofInt_toInt]
  show ((Int64.ofInt a).toBitVec <<< (((Int32.ofInt (k : Int)).toInt64 &&& 63).toBitVec.smod 64)).getLsbD i = _
  rw [BitVec.shiftLeft_eq', lsh_k ⟨k, hk⟩, BitVec.getLsbD_shiftLeft]
theorem btl_lushr {a : Int} {k i : Nat} (hk : k < 64) : btl (lushr a k) i = btl a (k + i) := by
  unfold btl lushr
  rw [Int64.ofInt_toInt]
  show ((Int64.ofInt a).toBitVec >>> (((Int32.ofInt (k : Int)).toInt64.toUInt64 &&& Int64.toUInt64 63).toBitVec % 64)).getLsbD i = _
  rw [BitVec.ushiftRight_eq', lus_k ⟨k, hk⟩, BitVec.getLsbD_ushiftRight]
theorem btl_0 {i : Nat} : btl 0 i = false := by
  unfold btl
  rw [show (Int64.ofInt 0).toBitVec = 0#64 from by decide]
  exact BitVec.getLsbD_zero
theorem btl_1 {i : Nat} : btl 1 i = decide (i = 0) := by
  by_cases h : i < 64
  · exact (by decide +kernel : ∀ i : Fin 64, btl 1 i.val = decide (i.val = 0)) ⟨i, h⟩
  · rw [btl_ge (by omega), decide_eq_false (by omega)]
theorem btl_one {k i : Nat} (hk : k < 64) : btl (lshl 1 k) i = decide (i = k) := by
  rw [btl_lshl hk, btl_1]
  by_cases h : i = k
  · subst h
    simp [hk]
  · by_cases h2 : i < k
    · simp [h, h2]
    · have : i - k ≠ 0 := by omega
      simp [h, h2, this]
theorem la_J (a b : Int) : inJ (la a b) := ⟨Int64.le_toInt _, Int64.toInt_le _⟩
theorem lx_J (a b : Int) : inJ (lx a b) := ⟨Int64.le_toInt _, Int64.toInt_le _⟩
theorem lshl_J (a b : Int) : inJ (lshl a b) := ⟨Int64.le_toInt _, Int64.toInt_le _⟩
theorem lushr_J (a b : Int) : inJ (lushr a b) := ⟨Int64.le_toInt _, Int64.toInt_le _⟩
/-- two longs of the same bits -/
theorem btl_ext {a b : Int} (ha : inJ a) (hb : inJ b) (h : ∀ i : Nat, i < 64 → btl a i = btl b i) : a = b := by
  have : Int64.ofInt a = Int64.ofInt b := Int64.toBitVec.inj (BitVec.eq_of_getLsbD_eq fun i hi => h i hi)
  rw [← i64_toInt ⟨ha.1, ha.2⟩, ← i64_toInt ⟨hb.1, hb.2⟩, this]
theorem la_zero {a b : Int} : la a b = 0 ↔ ∀ i : Nat, i < 64 → (btl a i && btl b i) = false := by
  constructor
  · intro h i hi
    rw [← btl_la, h, btl_0]
  · intro h
    refine btl_ext (la_J _ _) (by constructor <;> decide) fun i hi => ?_
    rw [btl_la, h i hi, btl_0]
theorem ne_zero_bit {a : Int} (ha : inJ a) (h : a ≠ 0) : ∃ i : Nat, i < 64 ∧ btl a i = true := by
  refine Classical.byContradiction fun hn => h ?_
  refine btl_ext ha (by constructor <;> decide) fun i hi => ?_
  rw [btl_0]
  cases hb : btl a i with
  | false => rfl
  | true => exact absurd ⟨i, hi, hb⟩ hn
/-- a single bit looked at -/
theorem bit_at {a : Int} {k : Nat} (hk : k < 64) : la (lushr a k) 1 = 1 ↔ btl a k = true := by
  constructor
  · intro h
    have : btl (la (lushr a k) 1) 0 = true := by rw [h]; decide
    rw [btl_la, btl_lushr hk, Nat.add_zero] at this
    simpa using (Bool.and_eq_true_iff.mp this).1
  · intro h
    refine btl_ext (la_J _ _) (by constructor <;> decide) fun i hi => ?_
    rw [btl_la, btl_lushr hk, btl_1]
    by_cases e : i = 0
    · subst e
      simp [h]
    · simp [e]
