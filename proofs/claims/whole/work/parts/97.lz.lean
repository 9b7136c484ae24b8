/-! longs as whole numbers -/
def lz (z : Int) : Int64 := Int64.ofInt z
theorem lz_add {a b : Int} : lz a + lz b = lz (a + b) := (Int64.ofInt_add a b).symm
theorem lz_mul {a b : Int} : lz a * lz b = lz (a * b) := (Int64.ofInt_mul a b).symm
theorem lz_sub {a b : Int} : lz a - lz b = lz (a - b) := (Int64.ofInt_sub a b).symm
theorem lz_N {n : Nat} : lN n = lz n := by
  apply Int64.toBitVec_inj.mp
  show BitVec.ofNat 64 n = BitVec.ofInt 64 n
  rw [BitVec.ofInt_natCast]
theorem lz_T {z : Int} (h1 : -9223372036854775808 ≤ z) (h2 : z < 9223372036854775808) : (lz z).toInt = z := Int64.toInt_ofInt_of_le h1 h2
theorem lz_X {x : Int32} : x.toInt64 = lz x.toInt := by
  apply Int64.toInt_inj.mp
  have h1 := Int32.le_toInt x
  have h2 := Int32.toInt_lt x
  rw [Int32.toInt_toInt64, lz_T (by omega) (by omega)]
theorem lz_lt {a b : Int} (a1 : -9223372036854775808 ≤ a) (a2 : a < 9223372036854775808) (b1 : -9223372036854775808 ≤ b) (b2 : b < 9223372036854775808) : lz a < lz b ↔ a < b := by
  rw [Int64.lt_iff_toInt_lt, lz_T a1 a2, lz_T b1 b2]
theorem lz_0 : (0 : Int64) = lz 0 := rfl
def mx0 (a : Int) : Int := if a < 0 then 0 else a
theorem lz_mx {a : Int} (a1 : -9223372036854775808 ≤ a) (a2 : a < 9223372036854775808) : (if lz a < 0 then (0 : Int64) else lz a) = lz (mx0 a) := by
  unfold mx0
  have hc : lz a < 0 ↔ a < 0 := lz_lt a1 a2 (b := 0) (by omega) (by omega)
  by_cases h : a < 0
  · rw [if_pos (hc.mpr h), if_pos h]
    rfl
  · rw [if_neg (fun g => h (hc.mp g)), if_neg h]
theorem mx0_le {a : Int} : a ≤ mx0 a ∧ 0 ≤ mx0 a := by
  unfold mx0
  by_cases h : a < 0
  · rw [if_pos h]
    omega
  · rw [if_neg h]
    omega
def szS (f : Nat → Int) : Nat → Nat → Int → Int
  | 0, _, a => a
  | k + 1, i, a => szS f k (i + 1) (a + f i)
theorem szS_b {f : Nat → Int} {B : Int} (hB : 0 ≤ B) : ∀ k i a, (∀ t, t < i + k → -B ≤ f t ∧ f t ≤ B) → a - k * B ≤ szS f k i a ∧ szS f k i a ≤ a + k * B
  | 0, _, a, _ => by
    show a - (0 : Nat) * B ≤ a ∧ a ≤ a + (0 : Nat) * B
    simp
  | k + 1, i, a, h => by
    have h1 := szS_b hB k (i + 1) (a + f i) (fun t ht => h t (by omega))
    have h2 := h i (by omega)
    have e : ((k + 1 : Nat) : Int) * B = (k : Int) * B + B := by
      rw [Int.natCast_succ, Int.add_mul, Int.one_mul]
    show a - ((k + 1 : Nat) : Int) * B ≤ szS f k (i + 1) (a + f i) ∧ szS f k (i + 1) (a + f i) ≤ a + ((k + 1 : Nat) : Int) * B
    rw [e]
    omega
theorem szS_le {f g : Nat → Int} : ∀ k i a b, a ≤ b → (∀ t, t < i + k → f t ≤ g t) → szS f k i a ≤ szS g k i b
  | 0, _, _, _, h, _ => h
  | k + 1, i, a, b, h, hf => by
    have := hf i (by omega)
    exact szS_le k (i + 1) _ _ (by omega) (fun t ht => hf t (by omega))
theorem szS_0 {f : Nat → Int} : ∀ k i a, 0 ≤ a → (∀ t, t < i + k → 0 ≤ f t) → 0 ≤ szS f k i a
  | 0, _, _, h, _ => h
  | k + 1, i, a, h, hf => by
    have := hf i (by omega)
    exact szS_0 k (i + 1) _ (by omega) (fun t ht => hf t (by omega))
theorem lz_nn {a : Int} (h : 0 ≤ a) : lz a = lN a.toNat := by
  rw [lz_N, Int.toNat_of_nonneg h]
theorem gX_z {I : px_HI} {tz kd : Nat → Nat} {h d hm : Int32} {rl sg i : Nat} : -99 ≤ (gX I tz kd h d hm rl sg i).toInt ∧ (gX I tz kd h d hm rl sg i).toInt ≤ 99 := by
  unfold gX clp
  generalize tV I tz rl 1 (nmE h d (nI (kd i)) hm (nI sg) (nI i)) = v
  by_cases h1 : v < -99
  · rw [if_pos h1]
    decide
  · rw [if_neg h1]
    by_cases h2 : 99 < v
    · rw [if_pos h2]
      decide
    · rw [if_neg h2]
      rw [Int32.lt_iff_toInt_lt, show (-99 : Int32).toInt = -99 by decide] at h1
      rw [Int32.lt_iff_toInt_lt, show (99 : Int32).toInt = 99 by decide] at h2
      omega
theorem mul_b {n : Nat} {z : Int} {B : Nat} (hn : n ≤ B) (h1 : -99 ≤ z) (h2 : z ≤ 99) : -((B : Int) * 99) ≤ n * z ∧ n * z ≤ (B : Int) * 99 := by
  have hn' : (n : Int) ≤ B := Int.ofNat_le.mpr hn
  have h0 : (0 : Int) ≤ n := Int.natCast_nonneg n
  constructor
  · have e1 : (n : Int) * (-99) ≤ n * z := Int.mul_le_mul_of_nonneg_left h1 h0
    omega
  · have e1 : (n : Int) * z ≤ n * 99 := Int.mul_le_mul_of_nonneg_left h2 h0
    omega
