/-! peep at once: on both sides -/
section PXPE
variable {d D n q L cc tc rl sg tp c k s m : Nat} {so : Option Nat} {dr R : px_HR} {ds S : px_HS} {I I' I0 : px_HI} {J : px_HJ} {xs : Nat → Int32} {ca kd nb ta ua wa tz : Nat → Nat} {x y z v w one : Int32} {W : Nat → Int64} {N : Nat → Nat} {X : Nat → Int32} {r : Option Value × px_G}
theorem w_ppC (hc : I 0 1 = nI cc) (h7 : cc ≤ 7) (hW : ∀ t, t < cc → J 17 t = lN (N t)) (hX : ∀ t, t < cc → I 18 t = X t) (hB : ∀ t, t < cc → N t ≤ 11379234375) (hZ : ∀ t, t < cc → -99 ≤ (X t).toInt ∧ (X t).toInt ≤ 99) : ∀ k i (g a : Int) (x7 : Option Value), i + k = cc → (∀ x7, px_ev (d + 1) 104 57 [some (.ref 0), some (.int y), some (.long (lz (szS (fun t => mx0 (N t * (X t).toInt)) k i g))), none, some (.long (lz (szS (fun t => N t * (X t).toInt) k i a))), none, some (.int (nI cc)), x7, none] [] I J (dR so dr) (dS L ds) n q r) → px_ev (d + 1) 104 8 [some (.ref 0), some (.int y), some (.long (lz g)), none, some (.long (lz a)), none, some (.int (nI i)), x7, none] [] I J (dR so dr) (dS L ds) n q r
  | 0, i, g, a, x7, hi, kk => by
    have e : i = cc := by omega
    subst e
    refine e_s rfl ?_
    refine e_s rfl ?_
    refine e_s rfl ?_
    rw [hc]
    refine e_s rfl ?_
    refine e_bt (nI_le (by omega) (by omega)) ?_
    exact kk x7
  | k + 1, i, g, a, x7, hi, kk => by
    obtain ⟨z1, z2⟩ := hZ i (by omega)
    have hb := mul_b (hB i (by omega)) z1 z2
    refine e_s rfl ?_
    refine e_s rfl ?_
    refine e_s rfl ?_
    rw [hc]
    refine e_s rfl ?_
    refine e_bf (nI_ge (by omega) (by omega)) ?_
    repeat refine e_s rfl ?_
    refine e_la rfl rfl rfl (show i < 7 by omega) (by decide) ?_
    rw [hW i (by omega)]
    repeat refine e_s rfl ?_
    refine e_ia rfl rfl rfl (show i < 7 by omega) (by decide) ?_
    rw [hX i (by omega)]
    refine e_s rfl ?_
    refine e_s rfl ?_
    rw [lz_N, lz_X, lz_mul]
    refine e_s rfl ?_
    refine e_s rfl ?_
    refine e_s rfl ?_
    refine e_s rfl ?_
    refine e_s rfl ?_
    rw [lz_mx (by omega) (by omega)]
    refine e_s rfl ?_
    rw [lz_add]
    refine e_s rfl ?_
    refine e_s rfl ?_
    refine e_s rfl ?_
    refine e_s rfl ?_
    rw [lz_add]
    refine e_s rfl ?_
    refine e_s rfl ?_
    refine e_s rfl ?_
    rw [nI_1]
    exact w_ppC hc h7 hW hX hB hZ k (i + 1) _ _ _ (by omega) kk
theorem w_ppM (hc : I 31 14 = nI cc) (h7 : cc ≤ 7) (hW : ∀ t, t < cc → J 38 t = lN (N t)) (hX : ∀ t, t < cc → J 39 t = (X t).toInt64) (hZ : ∀ t, t < cc → -99 ≤ (X t).toInt ∧ (X t).toInt ≤ 99) {u : Int64} : ∀ k i (g a : Int) (b : Nat) (x13 : Option Value), i + k = cc → (∀ x13, px_ev (d + 1) 213 174 [some (.ref 31), some (.int 0), some (.int y), some (.long (lz (szS (fun t => mx0 (N t * (X t).toInt)) k i g))), none, some (.long u), none, some (.long (lN (b + smN N k i))), none, some (.int 0), some (.long (lz (szS (fun t => N t * (X t).toInt) k i a))), none, some (.int (nI cc)), x13, none] [] I J (dR so dr) (dS L ds) n q r) → px_ev (d + 1) 213 73 [some (.ref 31), some (.int 0), some (.int y), some (.long (lz g)), none, some (.long u), none, some (.long (lN b)), none, some (.int 0), some (.long (lz a)), none, some (.int (nI i)), x13, none] [] I J (dR so dr) (dS L ds) n q r
  | 0, i, g, a, b, x13, hi, kk => by
    have e : i = cc := by omega
    subst e
    refine e_s rfl ?_
    refine e_s rfl ?_
    refine e_s rfl ?_
    rw [hc]
    refine e_s rfl ?_
    refine e_bt (nI_le (by omega) (by omega)) ?_
    exact kk x13
  | k + 1, i, g, a, b, x13, hi, kk => by
    obtain ⟨z1, z2⟩ := hZ i (by omega)
    have hN0 : (0 : Int) ≤ N i := Int.natCast_nonneg _
    refine e_s rfl ?_
    refine e_s rfl ?_
    refine e_s rfl ?_
    rw [hc]
    refine e_s rfl ?_
    refine e_bf (nI_ge (by omega) (by omega)) ?_
    repeat refine e_s rfl ?_
    refine e_la rfl rfl rfl (show i < 7 by omega) (by decide) ?_
    rw [hW i (by omega)]
    refine e_s rfl ?_
    refine e_s rfl ?_
    refine e_s rfl ?_
    refine e_s rfl ?_
    refine e_s rfl ?_
    refine e_s rfl ?_
    rw [show (1 : Int32).toInt64 = 1 by decide, Int64.mul_one]
    refine e_s rfl ?_
    refine e_s rfl ?_
    refine e_s rfl ?_
    refine e_s rfl ?_
    rw [lN_add]
    repeat refine e_s rfl ?_
    refine e_la rfl rfl rfl (show i < 7 by omega) (by decide) ?_
    rw [hX i (by omega)]
    refine e_s rfl ?_
    rw [lz_X, show lN (N i) * lz (X i).toInt = lz (N i * (X i).toInt) from by rw [lz_N, lz_mul]]
    refine e_s rfl ?_
    rw [lz_add]
    repeat refine e_s rfl ?_
    refine e_la rfl rfl rfl (show i < 7 by omega) (by decide) ?_
    rw [hX i (by omega), lz_X]
    refine e_s rfl ?_
    refine e_s rfl ?_
    refine e_s rfl ?_
    have hlt : (lz 0 < lz (X i).toInt) ↔ 0 < (X i).toInt := lz_lt (by omega) (by omega) (by omega) (by omega)
    by_cases hp : 0 < (X i).toInt
    · have em : mx0 (N i * (X i).toInt) = N i * (X i).toInt := by
        unfold mx0
        rw [if_neg (Int.not_lt.mpr (Int.mul_nonneg hN0 (by omega)))]
      refine e_bf (fun g => lg_le_not_lt ((lg_cmp_le _ _).mp g) (hlt.mpr hp)) ?_
      repeat refine e_s rfl ?_
      refine e_la rfl rfl rfl (show i < 7 by omega) (by decide) ?_
      rw [hX i (by omega), lz_X]
      refine e_s rfl ?_
      rw [show lN (N i) * lz (X i).toInt = lz (mx0 (N i * (X i).toInt)) from by rw [em, lz_N, lz_mul]]
      refine e_s rfl ?_
      refine e_s rfl ?_
      rw [lz_add]
      refine e_s rfl ?_
      refine e_s rfl ?_
      refine e_s rfl ?_
      rw [nI_1]
      refine w_ppM hc h7 hW hX hZ k (i + 1) _ _ _ _ (by omega) (fun x13 => ?_)
      rw [show b + N i + smN N k (i + 1) = b + smN N (k + 1) i from Nat.add_assoc _ _ _]
      exact kk x13
    · have em : mx0 (N i * (X i).toInt) = 0 := by
        have : (N i : Int) * (X i).toInt ≤ 0 := Int.mul_nonpos_of_nonneg_of_nonpos hN0 (by omega)
        unfold mx0
        by_cases g : (N i : Int) * (X i).toInt < 0
        · rw [if_pos g]
        · rw [if_neg g]
          omega
      refine e_bt ((lg_cmp_le _ _).mpr (Int64.not_lt.mp (fun g => hp (hlt.mp g)))) ?_
      refine e_s rfl ?_
      refine e_s rfl ?_
      rw [show lz g + 0 = lz (g + mx0 (N i * (X i).toInt)) from by rw [em, lz_0, lz_add]]
      refine e_s rfl ?_
      refine e_s rfl ?_
      refine e_s rfl ?_
      rw [nI_1]
      refine w_ppM hc h7 hW hX hZ k (i + 1) _ _ _ _ (by omega) (fun x13 => ?_)
      rw [show b + N i + smN N k (i + 1) = b + smN N (k + 1) i from Nat.add_assoc _ _ _]
      exact kk x13
end PXPE
