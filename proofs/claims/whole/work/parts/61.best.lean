/-! who is the likeliest: heaviest() and likeliest() -/
/-- from caller i on, so many more: the best so far, and its weight -/
def bst (W : Nat → Int64) : Nat → Nat → Int32 → Int64 → Int32
  | 0, _, b, _ => b
  | k + 1, i, b, m => if m < W i then bst W k (i + 1) (nI i) (W i) else bst W k (i + 1) b m
def bstW (W : Nat → Int64) (cc : Nat) : Int32 := bst W cc 0 (-1) 0
section PXB1
variable {d n q L cc : Nat} {so : Option Nat} {dr : px_HR} {ds : px_HS} {I : px_HI} {J : px_HJ} {W : Nat → Int64}
theorem w_hv (hc : I 0 1 = nI cc) (h7 : cc ≤ 7) (hW : ∀ t, t < cc → J 17 t = W t) : ∀ k i (b : Int32) (m : Int64), i + k = cc → px_ev (d + 1) 96 7 [some (.ref 0), some (.int b), some (.long m), none, some (.int (nI i))] [] I J (dR so dr) (dS L ds) n q (some (.int (bst W k i b m)), I, J, dR so dr, dS L ds, n, q)
  | 0, i, b, m, hi => by
    repeat refine e_s rfl ?_
    rw [hc]
    refine e_bt (nI_le (by omega) (by omega)) ?_
    refine e_s rfl ?_
    exact e_r rfl
  | k + 1, i, b, m, hi => by
    repeat refine e_s rfl ?_
    rw [hc]
    refine e_bf (nI_ge (by omega) (by omega)) ?_
    repeat refine e_s rfl ?_
    refine e_la rfl rfl rfl (show i < 7 by omega) (by decide) ?_
    rw [hW i (by omega)]
    repeat refine e_s rfl ?_
    unfold bst
    refine e_b (fun h => ?_) (fun h => ?_)
    · rw [if_neg (lg_le_not_lt ((lg_cmp_le _ _).mp h))]
      refine e_s rfl ?_
      refine e_s rfl ?_
      rw [nI_1]
      exact w_hv hc h7 hW k (i + 1) b m (by omega)
    · rw [if_pos ((lg_cmp_gt _ _).mp (Int32.not_le.mp h))]
      repeat refine e_s rfl ?_
      refine e_la rfl rfl rfl (show i < 7 by omega) (by decide) ?_
      rw [hW i (by omega)]
      refine e_s rfl ?_
      refine e_s rfl ?_
      refine e_s rfl ?_
      refine e_s rfl ?_
      refine e_s rfl ?_
      rw [nI_1]
      exact w_hv hc h7 hW k (i + 1) (nI i) (W i) (by omega)
theorem r_heaviest (hc : I 0 1 = nI cc) (h7 : cc ≤ 7) (hW : ∀ t, t < cc → J 17 t = W t) : px_mt (d + 1) 96 [.ref 0] I J (dR so dr) (dS L ds) n q (some (.int (bstW W cc)), I, J, dR so dr, dS L ds, n, q) := by
  unfold px_mt
  refine e_s rfl ?_
  refine e_s rfl ?_
  refine e_s rfl ?_
  refine e_s rfl ?_
  refine e_s rfl ?_
  refine e_s rfl ?_
  exact w_hv hc h7 hW cc 0 (-1) 0 (by omega)
theorem w_lk (hc : I 31 14 = nI cc) (h7 : cc ≤ 7) (hW : ∀ t, t < cc → J 38 t = W t) : ∀ k i (b : Int32) (m : Int64), i + k = cc → (b = -1 ∧ m = 0 ∨ ∃ f, f < i ∧ b = nI f ∧ m = W f ∧ 0 < m) → px_ev (d + 1) 207 4 [some (.ref 31), some (.int b), some (.int (nI i))] [] I J (dR so dr) (dS L ds) n q (some (.int (bst W k i b m)), I, J, dR so dr, dS L ds, n, q)
  | 0, i, b, m, hi, hb => by
    repeat refine e_s rfl ?_
    rw [hc]
    refine e_bt (nI_le (by omega) (by omega)) ?_
    refine e_s rfl ?_
    exact e_r rfl
  | k + 1, i, b, m, hi, hb => by
    repeat refine e_s rfl ?_
    rw [hc]
    refine e_bf (nI_ge (by omega) (by omega)) ?_
    repeat refine e_s rfl ?_
    refine e_la rfl rfl rfl (show i < 7 by omega) (by decide) ?_
    rw [hW i (by omega)]
    repeat refine e_s rfl ?_
    unfold bst
    refine e_b (fun h => ?_) (fun h => ?_)
    · have h0 := (lg_cmp_le _ _).mp h
      have hn : ¬ m < W i := by
        rcases hb with ⟨_, rfl⟩ | ⟨f, _, _, _, hm⟩
        · exact lg_le_not_lt h0
        · intro c
          have a1 := Int64.lt_iff_toInt_lt.mp hm
          have a2 := Int64.lt_iff_toInt_lt.mp c
          have a3 := Int64.le_iff_toInt_le.mp h0
          omega
      rw [if_neg hn]
      refine e_s rfl ?_
      refine e_s rfl ?_
      rw [nI_1]
      exact w_lk hc h7 hW k (i + 1) b m (by omega) (hb.imp id (fun ⟨f, g1, g2⟩ => ⟨f, by omega, g2⟩))
    · have h0 := (lg_cmp_gt _ _).mp (Int32.not_le.mp h)
      repeat refine e_s rfl ?_
      rcases hb with ⟨rfl, rfl⟩ | ⟨f, hf, rfl, rfl, hm⟩
      · rw [if_pos h0]
        refine e_s rfl ?_
        refine e_s rfl ?_
        refine e_s rfl ?_
        refine e_s rfl ?_
        rw [nI_1]
        exact w_lk hc h7 hW k (i + 1) (nI i) (W i) (by omega) (Or.inr ⟨i, by omega, rfl, rfl, h0⟩)
      · refine e_bf (nI_m1 (by omega)) ?_
        repeat refine e_s rfl ?_
        refine e_la rfl rfl rfl (show i < 7 by omega) (by decide) ?_
        rw [hW i (by omega)]
        repeat refine e_s rfl ?_
        refine e_la rfl rfl rfl (show f < 7 by omega) (by decide) ?_
        rw [hW f (by omega)]
        repeat refine e_s rfl ?_
        refine e_b (fun g => ?_) (fun g => ?_)
        · rw [if_neg (lg_le_not_lt ((lg_cmp_le _ _).mp g))]
          refine e_s rfl ?_
          refine e_s rfl ?_
          rw [nI_1]
          exact w_lk hc h7 hW k (i + 1) (nI f) (W f) (by omega) (Or.inr ⟨f, by omega, rfl, rfl, hm⟩)
        · rw [if_pos ((lg_cmp_gt _ _).mp (Int32.not_le.mp g))]
          refine e_s rfl ?_
          refine e_s rfl ?_
          refine e_s rfl ?_
          refine e_s rfl ?_
          rw [nI_1]
          exact w_lk hc h7 hW k (i + 1) (nI i) (W i) (by omega) (Or.inr ⟨i, by omega, rfl, rfl, h0⟩)
theorem r_likeliest (hc : I 31 14 = nI cc) (h7 : cc ≤ 7) (hW : ∀ t, t < cc → J 38 t = W t) : px_mt (d + 1) 207 [.ref 31] I J (dR so dr) (dS L ds) n q (some (.int (bstW W cc)), I, J, dR so dr, dS L ds, n, q) := by
  unfold px_mt
  refine e_s rfl ?_
  refine e_s rfl ?_
  refine e_s rfl ?_
  refine e_s rfl ?_
  exact w_lk hc h7 hW cc 0 (-1) 0 (by omega) (Or.inl ⟨rfl, rfl⟩)
end PXB1
