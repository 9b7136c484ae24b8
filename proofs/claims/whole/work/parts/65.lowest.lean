/-! lowest() on both sides -/
def NOl : Int64 := -4611686018427387904
def lowS (a b : Nat) (part : Int32) : Int64 := if b = 0 then NOl else if part = 0 then lN (a / Nat.gcd a b) else if part = 1 then lN (b / Nat.gcd a b) else NOl
section PXD2
variable {d n q : Nat} {I : px_HI} {J : px_HJ} {R : px_HR} {S : px_HS} {r : Option Value × px_G} {a b : Nat} {part : Int32}
theorem r_cd (ha : a < 2 ^ 63) (hb : b < 2 ^ 63) : px_mt (d + 1) 99 [.long (lN a), .long (lN b)] I J R S n q (some (.long (lN (Nat.gcd a b))), I, J, R, S, n, q) := by
  rw [← eu_gcd 63 a b hb 200 (by decide)]
  unfold px_mt
  refine e_s rfl ?_
  refine e_s rfl ?_
  refine e_s rfl ?_
  refine e_s rfl ?_
  refine e_s rfl ?_
  refine e_s rfl ?_
  exact w_cd 200 0 a b none (by decide) ha hb
theorem gcd_lt {a b : Nat} (hb : b < 2 ^ 63) (h0 : ¬ b = 0) : 0 < Nat.gcd a b ∧ Nat.gcd a b < 2 ^ 63 := by
  have h1 := Nat.gcd_le_right a (show 0 < b by omega)
  have h2 := Nat.gcd_pos_of_pos_right a (show 0 < b by omega)
  exact ⟨h2, by omega⟩
theorem r_low (ha : a < 2 ^ 63) (hb : b < 2 ^ 63) : px_mt (d + 2) 98 [.long (lN a), .long (lN b), .int part] I J R S n q (some (.long (lowS a b part)), I, J, R, S, n, q) := by
  unfold px_mt lowS
  refine e_s rfl ?_
  refine e_s rfl ?_
  refine e_c rfl (r_cd (d := d) ha hb) (by omega) ?_
  repeat refine e_s rfl ?_
  refine e_b (fun h => ?_) (fun h => ?_)
  · rw [if_pos ((lN_0 hb).mp ((lg_cmp_eq _ _).mp h))]
    refine e_s rfl ?_
    exact e_r rfl
  · have hb1 : ¬ b = 0 := fun g => h ((lg_cmp_eq _ _).mpr ((lN_0 hb).mpr g))
    obtain ⟨g1, g2⟩ := gcd_lt (a := a) hb hb1
    have g0 : ¬ lN (Nat.gcd a b) = 0 := fun g => by have := (lN_0 g2).mp g; omega
    rw [if_neg hb1]
    repeat refine e_s rfl ?_
    refine e_bt (fun g => g0 ((lg_cmp_eq _ _).mp g)) ?_
    repeat refine e_s rfl ?_
    refine e_b (fun h2 => ?_) (fun h2 => ?_)
    · rw [if_neg h2]
      repeat refine e_s rfl ?_
      refine e_b (fun h3 => ?_) (fun h3 => ?_)
      · rw [if_neg h3]
        repeat refine e_s rfl ?_
        exact e_r rfl
      · rw [if_pos (Classical.not_not.mp h3)]
        repeat refine e_s rfl ?_
        refine e_ldiv rfl g0 ?_
        rw [lN_div hb g2 g1]
        refine e_s rfl ?_
        exact e_r rfl
    · rw [if_pos (Classical.not_not.mp h2)]
      repeat refine e_s rfl ?_
      refine e_ldiv rfl g0 ?_
      rw [lN_div ha g2 g1]
      exact e_r rfl
theorem w_lw {u w : Int64} {x9 : Option Value} : ∀ f a b (x9 : Option Value), b ≤ f → a < 2 ^ 63 → b < 2 ^ 63 → (∀ x9 : Option Value, px_ev (d + 1) 209 42 [some (.long u), none, some (.long w), none, some (.int part), some (.long (lN (Nat.gcd a b))), none, some (.long 0), none, x9, none] [] I J R S n q r) → px_ev (d + 1) 209 17 [some (.long u), none, some (.long w), none, some (.int part), some (.long (lN a)), none, some (.long (lN b)), none, x9, none] [] I J R S n q r
  | 0, a, b, x9, hf, ha, hb, k => by
    have e : b = 0 := by omega
    subst e
    rw [Nat.gcd_zero_right] at k
    refine e_s rfl ?_
    refine e_s rfl ?_
    refine e_s rfl ?_
    refine e_s rfl ?_
    exact k x9
  | f + 1, a, b, x9, hf, ha, hb, k => by
    repeat refine e_s rfl ?_
    refine e_b (fun h => ?_) (fun h => ?_)
    · have e := (lN_0 hb).mp ((lg_cmp_eq _ _).mp h)
      subst e
      rw [Nat.gcd_zero_right] at k
      exact k x9
    · have hb0 : ¬ lN b = 0 := fun g => h ((lg_cmp_eq _ _).mpr g)
      have hb1 : ¬ b = 0 := fun g => hb0 ((lN_0 hb).mpr g)
      have hlt : a % b < b := Nat.mod_lt _ (by omega)
      refine e_s rfl ?_
      refine e_s rfl ?_
      refine e_lrem rfl hb0 ?_
      rw [lN_rem ha hb (by omega)]
      refine e_s rfl ?_
      refine e_s rfl ?_
      refine e_s rfl ?_
      refine e_s rfl ?_
      refine e_s rfl ?_
      refine e_s rfl ?_
      refine w_lw (x9 := x9) f b (a % b) _ (by omega) hb (by omega) ?_
      rw [show Nat.gcd b (a % b) = Nat.gcd a b by rw [Nat.gcd_comm b, ← Nat.gcd_rec b a, Nat.gcd_comm]]
      exact k
theorem r_lowM (ha : a < 2 ^ 63) (hb : b < 2 ^ 63) (h0 : ¬ b = 0) (hp : part = 0 ∨ part = 1) : px_mt (d + 1) 209 [.long (lN a), .long (lN b), .int part] I J R S n q (some (.long (lowS a b part)), I, J, R, S, n, q) := by
  obtain ⟨g1, g2⟩ := gcd_lt (a := a) hb h0
  have g0 : ¬ lN (Nat.gcd a b) = 0 := fun g => by have := (lN_0 g2).mp g; omega
  unfold px_mt lowS
  rw [if_neg h0]
  repeat refine e_s rfl ?_
  refine e_bt ((lg_cmp_ge _ _).mpr (Int64.le_iff_toInt_le.mpr (by rw [lN_t ha]; show (0 : Int) ≤ _; omega))) ?_
  refine e_s rfl ?_
  refine e_s rfl ?_
  refine e_s rfl ?_
  refine e_s rfl ?_
  refine w_lw (x9 := none) b a b none (Nat.le_refl _) ha hb (fun x9 => ?_)
  repeat refine e_s rfl ?_
  rcases hp with rfl | rfl
  · repeat refine e_s rfl ?_
    refine e_ldiv rfl g0 ?_
    rw [lN_div ha g2 g1]
    refine e_s rfl ?_
    exact e_r rfl
  · repeat refine e_s rfl ?_
    refine e_ldiv rfl g0 ?_
    rw [lN_div hb g2 g1]
    exact e_r rfl
end PXD2
