/-! the value of a Text of the class -/
theorem i32_6 {t : Int32} (h1 : -6 ≤ t) (h2 : t < 0) : t = -6 ∨ t = -5 ∨ t = -4 ∨ t = -3 ∨ t = -2 ∨ t = -1 := by
  have g : ∀ y : Int32, t.toInt = y.toInt → t = y := fun y h => Int32.toInt_inj.mp h
  have a1 := Int32.le_iff_toInt_le.mp h1
  have a2 := Int32.lt_iff_toInt_lt.mp h2
  have e6 : (-6 : Int32).toInt = -6 := by decide
  have e0 : (0 : Int32).toInt = 0 := by decide
  have : t.toInt = -6 ∨ t.toInt = -5 ∨ t.toInt = -4 ∨ t.toInt = -3 ∨ t.toInt = -2 ∨ t.toInt = -1 := by omega
  rcases this with h | h | h | h | h | h
  · exact Or.inl (g _ h)
  · exact Or.inr (Or.inl (g _ h))
  · exact Or.inr (Or.inr (Or.inl (g _ h)))
  · exact Or.inr (Or.inr (Or.inr (Or.inl (g _ h))))
  · exact Or.inr (Or.inr (Or.inr (Or.inr (Or.inl (g _ h)))))
  · exact Or.inr (Or.inr (Or.inr (Or.inr (Or.inr (g _ h)))))
/-- what the names say -/
def nmE (hour day sort home signs who : Int32) : pE := fun s => if s = -1 then hour else if s = -2 then day else if s = -3 then sort else if s = -4 then home else if s = -5 then signs else if s = -6 then who else 0
def skOK (f : Nat → Int32) : List Int32 → Prop
  | [] => True
  | v :: r => f r.length = v ∧ skOK f r
theorem skOK.up {f g : Nat → Int32} : ∀ {r : List Int32}, skOK f r → (∀ j, j < r.length → g j = f j) → skOK g r
  | [], _, _ => trivial
  | v :: r, h, hg => ⟨(hg r.length (Nat.lt_succ_self _)).trans h.1, skOK.up h.2 (fun j hj => hg j (Nat.lt_succ_of_lt hj))⟩
def jnT : List (Nat × Nat) := [(0, 106), (0, 102), (0, 98), (0, 87), (0, 76), (0, 110), (0, 62), (0, 48)]
theorem jn_out {t x y : Int32} (h : t.toInt < -14 ∨ -7 < t.toInt) : px_sw jnT (-14) t 110 = 110 ∧ jn t x y = 0 := by
  have ne : ∀ y : Int32, -14 ≤ y.toInt → y.toInt ≤ -7 → ¬ t = y := fun y h1 h2 e => by rw [e] at h; omega
  have e14 : (-14 : Int32).toInt = -14 := by decide
  constructor
  · rcases h with h | h
    · exact sw_lo (Int32.lt_iff_toInt_lt.mpr (by rw [e14]; exact h))
    · refine sw_hi ?_
      rw [e14]
      show 8 ≤ _
      omega
  · unfold jn
    rw [if_neg (ne (-7) (by decide) (by decide)), if_neg (ne (-8) (by decide) (by decide)), if_neg (ne (-10) (by decide) (by decide)), if_neg (ne (-11) (by decide) (by decide)), if_neg (ne (-12) (by decide) (by decide)), if_neg (ne (-13) (by decide) (by decide)), if_neg (ne (-14) (by decide) (by decide))]
section PXT9
variable {d n q t u w sc len : Nat} {I : px_HI} {J : px_HJ} {R : px_HR} {S : px_HS}
theorem r_jn (s x y : Int32) : px_mt (d + 1) 91 [.int s, .int x, .int y] I J R S n q (some (.int (jn s x y)), I, J, R, S, n, q) := by
  unfold px_mt
  refine e_s rfl ?_
  refine e_s rfl ?_
  by_cases h : s.toInt < -14 ∨ -7 < s.toInt
  · obtain ⟨h1, h2⟩ := jn_out (x := x) (y := y) h
    refine e_pc h1 ?_
    rw [h2]
    refine e_s rfl ?_
    exact e_r rfl
  · rcases i32_8 (t := s) (by omega) (by omega) with e | e | e | e | e | e | e | e <;> subst e
    · refine e_pc (p2 := 106) (by decide) ?_
      repeat refine e_s rfl ?_
      exact e_r rfl
    · refine e_pc (p2 := 102) (by decide) ?_
      repeat refine e_s rfl ?_
      exact e_r rfl
    · refine e_pc (p2 := 98) (by decide) ?_
      repeat refine e_s rfl ?_
      exact e_r rfl
    · refine e_pc (p2 := 87) (by decide) ?_
      repeat refine e_s rfl ?_
      show px_ev _ _ _ _ _ _ _ _ _ _ _ (some (.int (bI (decide (x = y)))), _)
      refine e_b (fun h => ?_) (fun h => ?_)
      · rw [decide_eq_false h]
        repeat refine e_s rfl ?_
        exact e_r rfl
      · rw [decide_eq_true (Classical.not_not.mp h)]
        repeat refine e_s rfl ?_
        exact e_r rfl
    · refine e_pc (p2 := 76) (by decide) ?_
      repeat refine e_s rfl ?_
      show px_ev _ _ _ _ _ _ _ _ _ _ _ (some (.int (bI (decide (x < y)))), _)
      refine e_b (fun h => ?_) (fun h => ?_)
      · rw [decide_eq_false (Int32.not_lt.mpr h)]
        repeat refine e_s rfl ?_
        exact e_r rfl
      · rw [decide_eq_true (Int32.not_le.mp h)]
        repeat refine e_s rfl ?_
        exact e_r rfl
    · refine e_pc (p2 := 110) (by decide) ?_
      repeat refine e_s rfl ?_
      exact e_r rfl
    · refine e_pc (p2 := 62) (by decide) ?_
      repeat refine e_s rfl ?_
      show px_ev _ _ _ _ _ _ _ _ _ _ _ (some (.int (bI (decide (¬ x = 0 ∧ ¬ y = 0)))), _)
      refine e_b (fun h => ?_) (fun h => ?_)
      · rw [decide_eq_false (fun g => g.1 h)]
        repeat refine e_s rfl ?_
        exact e_r rfl
      · repeat refine e_s rfl ?_
        refine e_b (fun h2 => ?_) (fun h2 => ?_)
        · rw [decide_eq_false (fun g => g.2 h2)]
          repeat refine e_s rfl ?_
          exact e_r rfl
        · rw [decide_eq_true ⟨h, h2⟩]
          repeat refine e_s rfl ?_
          exact e_r rfl
    · refine e_pc (p2 := 48) (by decide) ?_
      repeat refine e_s rfl ?_
      show px_ev _ _ _ _ _ _ _ _ _ _ _ (some (.int (bI (decide (¬ x = 0 ∨ ¬ y = 0)))), _)
      refine e_b (fun h => ?_) (fun h => ?_)
      · rw [decide_eq_true (Or.inl h)]
        repeat refine e_s rfl ?_
        exact e_r rfl
      · repeat refine e_s rfl ?_
        refine e_b (fun h2 => ?_) (fun h2 => ?_)
        · rw [decide_eq_false (fun g => g.elim h (fun g => g h2))]
          repeat refine e_s rfl ?_
          exact e_r rfl
        · rw [decide_eq_true (Or.inr h2)]
          repeat refine e_s rfl ?_
          exact e_r rfl
theorem r_nm {s sort who : Int32} (hS : S sc = (17, 8)) (h1 : -6 ≤ s) (h2 : s < 0) : px_mt (d + 1) 88 [.int s, .ref sc, .int sort, .int who] I J R S n q (some (.int (nmE (I sc 0) (I sc 1) sort (I sc 2) (I sc 6) who s)), I, J, R, S, n, q) := by
  unfold px_mt
  refine e_s rfl ?_
  refine e_s rfl ?_
  rcases i32_6 h1 h2 with e | e | e | e | e | e <;> subst e
  · refine e_pc (p2 := 62) (by decide) ?_
    refine e_s rfl ?_
    exact e_r rfl
  · refine e_pc (p2 := 57) (by decide) ?_
    refine e_s rfl ?_
    refine e_gi rfl hS rfl ?_
    exact e_r rfl
  · refine e_pc (p2 := 52) (by decide) ?_
    refine e_s rfl ?_
    refine e_gi rfl hS rfl ?_
    exact e_r rfl
  · refine e_pc (p2 := 50) (by decide) ?_
    refine e_s rfl ?_
    exact e_r rfl
  · refine e_pc (p2 := 45) (by decide) ?_
    refine e_s rfl ?_
    refine e_gi rfl hS rfl ?_
    exact e_r rfl
  · refine e_pc (p2 := 40) (by decide) ?_
    refine e_s rfl ?_
    refine e_gi rfl hS rfl ?_
    exact e_r rfl
theorem r_at {k : Nat} (hS : S t = (20, 4)) (hR : R t 3 = some w) (hW : S w = (100, len)) (hk : k < len) (hl : len < 160) : px_mt (d + 1) 90 [.ref t, .int (nI k)] I J R S n q (some (.int (I w k)), I, J, R, S, n, q) := by
  unfold px_mt
  repeat refine e_s rfl ?_
  refine e_bf (nI_pos (by omega)) ?_
  repeat refine e_s rfl ?_
  refine e_gr rfl hS rfl hR ?_
  refine e_al rfl hW rfl ?_
  refine e_s rfl ?_
  refine e_bf (nI_ge hk (by omega)) ?_
  refine e_s rfl ?_
  refine e_gr rfl hS rfl hR ?_
  refine e_s rfl ?_
  refine e_ia rfl hW rfl hk (by omega) ?_
  refine e_s rfl ?_
  exact e_r rfl
theorem r_lay {k : Nat} {x : Int32} (hS : S t = (20, 4)) (hR : R t 3 = some w) (hW : S w = (100, len)) (hk : k < len) (hl : len < 160) : px_mt (d + 1) 89 [.ref t, .int (nI k), .int x] I J R S n q (none, px_u I w k x, J, R, S, n, q) := by
  unfold px_mt
  repeat refine e_s rfl ?_
  refine e_bf (nI_pos (by omega)) ?_
  repeat refine e_s rfl ?_
  refine e_gr rfl hS rfl hR ?_
  refine e_al rfl hW rfl ?_
  refine e_s rfl ?_
  refine e_bf (nI_ge hk (by omega)) ?_
  refine e_s rfl ?_
  refine e_gr rfl hS rfl hR ?_
  refine e_s rfl ?_
  refine e_s rfl ?_
  refine e_is rfl hW rfl hk (by omega) ?_
  exact e_r rfl
theorem tp_1 (k : Nat) : nI k - 1 + 1 = nI k := by rw [Int32.sub_add_cancel]
end PXT9
