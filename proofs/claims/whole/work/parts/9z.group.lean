/-! the class groups readings: the weights of one side, weighed once -/
/-- weights with the bar times x, without it times y -/
def two (w : Int → Int) (b x y s : Int) : Int := w s * if ia (ishr s b) 1 = 1 then x else y
theorem two_l {A l w : Int → Int} {wy : Int → Bool} {N m k : Nat} {st b x : Int} (hx : 0 ≤ x) : WVs A wy N m l st k (two w b x 0) = x * WVs A wy N m l st k (two w b 1 0) := by
  rw [← WVs_mul hx]
  congr 1
  funext s
  unfold two
  split
  · rw [Int.mul_one, Int.mul_comm]
  · rw [Int.mul_zero, Int.mul_zero]
theorem two_r {A l w : Int → Int} {wy : Int → Bool} {N m k : Nat} {st b y : Int} (hy : 0 ≤ y) : WVs A wy N m l st k (two w b 0 y) = y * WVs A wy N m l st k (two w b 0 1) := by
  rw [← WVs_mul hy]
  congr 1
  funext s
  unfold two
  split
  · rw [Int.mul_zero, Int.mul_zero]
  · rw [Int.mul_one, Int.mul_comm]
/-- a reading's row at a bar's cell -/
theorem two_lk {A w : Int → Int} {st c b v s : Int} (hc : A (108 + c) = b) (hb : b ≠ -1) : w s * lk A (dep A st c s) v = two w b (lk A (dep A st c 0 - A (28 + 4 * b)) v) (lk A (dep A st c 0) v) s ∨ ia (ishr 0 b) 1 = 1 := by
  by_cases g0 : ia (ishr 0 b) 1 = 1
  · exact Or.inr g0
  · left
    unfold two
    rw [dep_bar hc hb (s := s), dep_bar hc hb (s := 0), if_neg g0]
    split <;> rfl
