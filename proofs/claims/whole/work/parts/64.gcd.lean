/-! the common divisor on both sides -/
def eu : Nat → Nat → Nat → Nat
  | 0, a, _ => a
  | f + 1, a, b => if b = 0 then a else eu f b (a % b)
theorem eu_gcd : ∀ k a b, b < 2 ^ k → ∀ f, 2 * k + 1 ≤ f → eu f a b = Nat.gcd a b
  | 0, a, b, hb, f, hf => by
    have e : b = 0 := by simp at hb; omega
    subst e
    obtain ⟨f, rfl⟩ : ∃ x, f = x + 1 := ⟨f - 1, by omega⟩
    show (if (0 : Nat) = 0 then a else _) = _
    rw [if_pos rfl, Nat.gcd_zero_right]
  | k + 1, a, b, hb, f, hf => by
    obtain ⟨f, rfl⟩ : ∃ x, f = x + 2 := ⟨f - 2, by omega⟩
    by_cases h0 : b = 0
    · subst h0
      show (if (0 : Nat) = 0 then a else _) = _
      rw [if_pos rfl, Nat.gcd_zero_right]
    · show (if b = 0 then a else if a % b = 0 then b else eu f (a % b) (b % (a % b))) = _
      rw [if_neg h0]
      by_cases h1 : a % b = 0
      · rw [if_pos h1, Nat.gcd_comm, Nat.gcd_rec, h1, Nat.gcd_zero_left]
      · rw [if_neg h1]
        have hlt : a % b < b := Nat.mod_lt _ (by omega)
        have hb2 : b < 2 * 2 ^ k := by rw [Nat.pow_succ] at hb; omega
        have h2 : b % (a % b) < 2 ^ k := by
          have h3 : b % (a % b) < a % b := Nat.mod_lt _ (by omega)
          by_cases h4 : a % b ≤ 2 ^ k
          · omega
          · have h5 : b % (a % b) = (b - a % b) % (a % b) := Nat.mod_eq_sub_mod (by omega)
            have h6 := Nat.mod_le (b - a % b) (a % b)
            omega
        rw [eu_gcd k (a % b) (b % (a % b)) h2 f (by omega)]
        rw [Nat.gcd_comm a b, Nat.gcd_rec b a, Nat.gcd_comm (a % b) b, Nat.gcd_comm (a % b) (b % (a % b)), ← Nat.gcd_rec (a % b) b, Nat.gcd_comm]
theorem lN_t {n : Nat} (h : n < 2 ^ 63) : (lN n).toInt = n := lg_ofNat_toInt h
theorem lN_div {a b : Nat} (ha : a < 2 ^ 63) (hb : b < 2 ^ 63) (h0 : 0 < b) : lN a / lN b = lN (a / b) := by
  refine Int64.toInt_inj.mp ?_
  rw [lg_ldiv_nonneg (by rw [lN_t ha]; omega) (by rw [lN_t hb]; omega), lN_t ha, lN_t hb, lN_t (Nat.lt_of_le_of_lt (Nat.div_le_self a b) ha)]
  rfl
theorem lN_rem {a b : Nat} (ha : a < 2 ^ 63) (hb : b < 2 ^ 63) (h0 : 0 < b) : lN a - lN a / lN b * lN b = lN (a % b) := by
  rw [lN_div ha hb h0, lN_mul, lN_sub (Nat.div_mul_le_self a b)]
  congr 1
  have := Nat.div_add_mod a b
  rw [Nat.mul_comm] at this
  omega
theorem lN_0 {b : Nat} (hb : b < 2 ^ 63) : lN b = 0 ↔ b = 0 := by
  rw [← Int64.toInt_inj, lN_t hb]
  have : (0 : Int64).toInt = 0 := by decide
  rw [this]
  omega
section PXD1
variable {d m pc n q a b c nx : Nat} {tb : List (Nat × Nat)} {v : Value} {pl : px_L} {st : List Value} {I : px_HI} {J : px_HJ} {R : px_HR} {S : px_HS} {r : Option Value × px_G} {x y : Int64}
theorem e_ldiv (hT : px_T m pc = some (9, a, 3, c, nx, tb, v)) (hy : ¬ y = 0) (k : px_ev (d + 1) m nx pl (.long (x / y) :: st) I J R S n q r) : px_ev (d + 1) m pc pl (.long y :: .long x :: st) I J R S n q r := by
  refine e_s ?_ k
  rw [px_1of hT rfl]
  simp only [px_st, px_lb, if_neg hy]
theorem e_lrem (hT : px_T m pc = some (9, a, 4, c, nx, tb, v)) (hy : ¬ y = 0) (k : px_ev (d + 1) m nx pl (.long (x - x / y * y) :: st) I J R S n q r) : px_ev (d + 1) m pc pl (.long y :: .long x :: st) I J R S n q r := by
  refine e_s ?_ k
  rw [px_1of hT rfl]
  simp only [px_st, px_lb, if_neg hy]
theorem w_cd {u w : Int64} : ∀ f i a b (x9 : Option Value), i + f = 200 → a < 2 ^ 63 → b < 2 ^ 63 → px_ev (d + 1) 99 9 [some (.long u), none, some (.long w), none, some (.long (lN a)), none, some (.long (lN b)), none, some (.int (nI i)), x9, none] [] I J R S n q (some (.long (lN (eu f a b))), I, J, R, S, n, q)
  | 0, i, a, b, x9, hi, ha, hb => by
    repeat refine e_s rfl ?_
    refine e_bt (nI_le (a := 200) (by omega) (by omega)) ?_
    refine e_s rfl ?_
    exact e_r rfl
  | f + 1, i, a, b, x9, hi, ha, hb => by
    repeat refine e_s rfl ?_
    refine e_bf (nI_ge (b := 200) (by omega) (by decide)) ?_
    repeat refine e_s rfl ?_
    unfold eu
    refine e_b (fun h => ?_) (fun h => ?_)
    · rw [if_pos ((lN_0 hb).mp ((lg_cmp_eq _ _).mp h))]
      refine e_s rfl ?_
      exact e_r rfl
    · have hb0 : ¬ lN b = 0 := fun g => h ((lg_cmp_eq _ _).mpr g)
      have hb1 : ¬ b = 0 := fun g => hb0 ((lN_0 hb).mpr g)
      rw [if_neg hb1]
      refine e_s rfl ?_
      refine e_s rfl ?_
      refine e_lrem rfl hb0 ?_
      rw [lN_rem ha hb (by omega)]
      refine e_s rfl ?_
      refine e_s rfl ?_
      refine e_s rfl ?_
      refine e_s rfl ?_
      refine e_s rfl ?_
      refine e_s rfl ?_
      refine e_s rfl ?_
      rw [nI_1]
      exact w_cd f (i + 1) b (a % b) _ (by omega) hb (Nat.lt_trans (Nat.mod_lt _ (by omega)) hb)
end PXD1
