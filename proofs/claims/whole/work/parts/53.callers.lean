/-! callers: what they do, in the class and in the model -/
def pst (g : Int32) : Int32 := if g = 0 then 9 else 1
def qut (g : Int32) : Int32 := if g = 2 then 12 else 2
def snd (kd : Nat) (nb g i : Int32) : Int32 := match kd with
  | 0 => 5
  | 1 => pst g
  | 2 => qut g
  | 3 => if i = 1 ∧ g = 1 then pst g + nb else pst g
  | 4 => if g = 3 ∧ 0 < i then 15 else qut g
  | _ => if g = 1 then pst g + i else pst g
def wts (kd : Nat) (nb h : Int32) : Int32 := match kd with
  | 0 => 3
  | 1 => 3 + nb / 3
  | 2 => 2
  | 3 => if h < 12 then 2 * (3 + nb / 3) else 3 + nb / 3
  | 4 => 0
  | _ => 3 + nb / 3 + 5
def sty (kd : Nat) (dg nt : Int32) : Bool := match kd with
  | 2 => !decide (dg = 1)
  | 4 => !decide (nt = 1) && !decide (dg = 1)
  | 5 => !(decide (dg = 1) && decide (nt = 1))
  | _ => true
def cls (kd : Nat) : Nat := match kd with
  | 0 => 10
  | 1 => 13
  | 2 => 15
  | 3 => 12
  | 4 => 11
  | _ => 14
theorem max0 {s : Int32} (h : 0 ≤ s) : (if 0 < s then s else 0) = s := by
  by_cases g : 0 < s
  · rw [if_pos g]
  · rw [if_neg g]
    exact (Int32.le_antisymm (Int32.not_lt.mp g) h).symm
section PXC1
variable {d n q c sc kd : Nat} {I : px_HI} {J : px_HJ} {R : px_HR} {S : px_HS} {g i h x : Int32}
theorem s_78 : px_mt (d + 1) 78 [.ref c, .int g, .int i] I J R S n q (some (.int 5), I, J, R, S, n, q) := by
  unfold px_mt
  repeat refine e_s rfl ?_
  exact e_r rfl
theorem s_76 {k : Nat} (hS : S c = (k, 2)) (hk : k = 12 ∨ k = 13 ∨ k = 14) : px_mt (d + 2) 76 [.ref c, .int g, .int i] I J R S n q (some (.int (pst g)), I, J, R, S, n, q) := by
  unfold px_mt pst
  repeat refine e_s rfl ?_
  refine e_b (fun h => ?_) (fun h => ?_)
  · rw [if_neg h]
    repeat refine e_s rfl ?_
    rcases hk with rfl | rfl | rfl <;> (
      refine e_cv rfl rfl rfl hS rfl rfl (s_78 (d := d)) (by omega) ?_
      repeat refine e_s rfl ?_
      exact e_r rfl)
  · rw [if_pos (Classical.not_not.mp h)]
    repeat refine e_s rfl ?_
    exact e_r rfl
theorem s_74 {k : Nat} (hS : S c = (k, 2)) (hk : k = 11 ∨ k = 15) : px_mt (d + 2) 74 [.ref c, .int g, .int i] I J R S n q (some (.int (qut g)), I, J, R, S, n, q) := by
  unfold px_mt qut
  repeat refine e_s rfl ?_
  refine e_b (fun h => ?_) (fun h => ?_)
  · rw [if_neg h]
    repeat refine e_s rfl ?_
    rcases hk with rfl | rfl <;> (
      refine e_cv rfl rfl rfl hS rfl rfl (s_78 (d := d)) (by omega) ?_
      repeat refine e_s rfl ?_
      exact e_r rfl)
  · rw [if_pos (Classical.not_not.mp h)]
    repeat refine e_s rfl ?_
    exact e_r rfl
theorem s_73 (hS : S c = (11, 2)) : px_mt (d + 3) 73 [.ref c, .int g, .int i] I J R S n q (some (.int (snd 4 x g i)), I, J, R, S, n, q) := by
  show px_mt _ _ _ _ _ _ _ _ _ (some (.int (if g = 3 ∧ 0 < i then 15 else qut g)), _)
  unfold px_mt
  repeat refine e_s rfl ?_
  refine e_b (fun h => ?_) (fun h => ?_)
  · rw [if_neg (fun c => h c.1)]
    repeat refine e_s rfl ?_
    refine e_cv rfl rfl rfl hS rfl rfl (s_74 (d := d) hS (Or.inl rfl)) (by omega) ?_
    exact e_r rfl
  · repeat refine e_s rfl ?_
    refine e_b (fun h2 => ?_) (fun h2 => ?_)
    · rw [if_neg (fun c => Int32.not_lt.mpr h2 c.2)]
      repeat refine e_s rfl ?_
      refine e_cv rfl rfl rfl hS rfl rfl (s_74 (d := d) hS (Or.inl rfl)) (by omega) ?_
      exact e_r rfl
    · rw [if_pos ⟨Classical.not_not.mp h, Int32.not_le.mp h2⟩]
      repeat refine e_s rfl ?_
      exact e_r rfl
theorem s_75 (hS : S c = (12, 2)) : px_mt (d + 3) 75 [.ref c, .int g, .int i] I J R S n q (some (.int (snd 3 (I c 1) g i)), I, J, R, S, n, q) := by
  unfold px_mt snd
  repeat refine e_s rfl ?_
  refine e_cv rfl rfl rfl hS rfl rfl (s_76 (d := d) hS (Or.inl rfl)) (by omega) ?_
  repeat refine e_s rfl ?_
  refine e_b (fun h => ?_) (fun h => ?_)
  · rw [if_neg (fun c => h c.1)]
    repeat refine e_s rfl ?_
    exact e_r rfl
  · repeat refine e_s rfl ?_
    refine e_b (fun h2 => ?_) (fun h2 => ?_)
    · rw [if_neg (fun c => h2 c.2)]
      repeat refine e_s rfl ?_
      exact e_r rfl
    · rw [if_pos ⟨Classical.not_not.mp h, Classical.not_not.mp h2⟩]
      repeat refine e_s rfl ?_
      refine e_gi rfl hS rfl ?_
      repeat refine e_s rfl ?_
      exact e_r rfl
theorem s_77 (hS : S c = (14, 2)) : px_mt (d + 3) 77 [.ref c, .int g, .int i] I J R S n q (some (.int (snd 5 x g i)), I, J, R, S, n, q) := by
  unfold px_mt snd
  repeat refine e_s rfl ?_
  refine e_cv rfl rfl rfl hS rfl rfl (s_76 (d := d) hS (Or.inr (Or.inr rfl))) (by omega) ?_
  repeat refine e_s rfl ?_
  refine e_b (fun h => ?_) (fun h => ?_)
  · rw [if_neg h]
    repeat refine e_s rfl ?_
    exact e_r rfl
  · rw [if_pos (Classical.not_not.mp h)]
    repeat refine e_s rfl ?_
    exact e_r rfl
/-- soundsOf of the class -/
theorem r_snd (hk : kd ≤ 5) (hS : S c = (cls kd, 2)) (hs : 0 ≤ snd kd (I c 1) g i) : px_mt (d + 4) 72 [.ref c, .int g, .int i] I J R S n q (some (.int (snd kd (I c 1) g i)), I, J, R, S, n, q) := by
  unfold px_mt
  repeat refine e_s rfl ?_
  rcases (show kd = 0 ∨ kd = 1 ∨ kd = 2 ∨ kd = 3 ∨ kd = 4 ∨ kd = 5 by omega) with rfl | rfl | rfl | rfl | rfl | rfl
  · refine e_cv rfl rfl rfl hS rfl rfl (s_78 (d := d)) (by omega) ?_
    refine e_s rfl ?_
    exact e_r rfl
  · refine e_cv rfl rfl rfl hS rfl rfl (s_76 (d := d) hS (Or.inr (Or.inl rfl))) (by omega) ?_
    refine e_s rfl ?_
    rw [max0 (show 0 ≤ pst g from hs)]
    exact e_r rfl
  · refine e_cv rfl rfl rfl hS rfl rfl (s_74 (d := d) hS (Or.inr rfl)) (by omega) ?_
    refine e_s rfl ?_
    rw [max0 (show 0 ≤ qut g from hs)]
    exact e_r rfl
  · refine e_cv rfl rfl rfl hS rfl rfl (s_75 (d := d) hS) (by omega) ?_
    refine e_s rfl ?_
    rw [max0 hs]
    exact e_r rfl
  · refine e_cv rfl rfl rfl hS rfl rfl (s_73 (d := d) (x := I c 1) hS) (by omega) ?_
    refine e_s rfl ?_
    rw [max0 hs]
    exact e_r rfl
  · refine e_cv rfl rfl rfl hS rfl rfl (s_77 (d := d) (x := I c 1) hS) (by omega) ?_
    refine e_s rfl ?_
    rw [max0 hs]
    exact e_r rfl
theorem w_66 : px_mt (d + 1) 66 [.ref c, .int h] I J R S n q (some (.int 3), I, J, R, S, n, q) := by
  unfold px_mt
  repeat refine e_s rfl ?_
  exact e_r rfl
theorem w_63 {k : Nat} (hS : S c = (k, 2)) (hk : k = 12 ∨ k = 13 ∨ k = 14) : px_mt (d + 2) 63 [.ref c, .int h] I J R S n q (some (.int (3 + I c 1 / 3)), I, J, R, S, n, q) := by
  unfold px_mt
  repeat refine e_s rfl ?_
  rcases hk with rfl | rfl | rfl <;> (
    refine e_cv rfl rfl rfl hS rfl rfl (w_66 (d := d)) (by omega) ?_
    repeat refine e_s rfl ?_
    refine e_gi rfl hS rfl ?_
    repeat refine e_s rfl ?_
    exact e_r rfl)
theorem w_65 (hS : S c = (15, 2)) : px_mt (d + 2) 65 [.ref c, .int h] I J R S n q (some (.int 2), I, J, R, S, n, q) := by
  unfold px_mt
  repeat refine e_s rfl ?_
  refine e_cv rfl rfl rfl hS rfl rfl (w_66 (d := d)) (by omega) ?_
  repeat refine e_s rfl ?_
  exact e_r rfl
theorem w_64 (hS : S c = (14, 2)) : px_mt (d + 3) 64 [.ref c, .int h] I J R S n q (some (.int (3 + I c 1 / 3 + 5)), I, J, R, S, n, q) := by
  unfold px_mt
  repeat refine e_s rfl ?_
  refine e_cv rfl rfl rfl hS rfl rfl (w_63 (d := d) hS (Or.inr (Or.inr rfl))) (by omega) ?_
  repeat refine e_s rfl ?_
  exact e_r rfl
theorem w_62 (hS : S c = (12, 2)) : px_mt (d + 3) 62 [.ref c, .int h] I J R S n q (some (.int (if h < 12 then 2 * (3 + I c 1 / 3) else 3 + I c 1 / 3)), I, J, R, S, n, q) := by
  unfold px_mt
  repeat refine e_s rfl ?_
  refine e_cv rfl rfl rfl hS rfl rfl (w_63 (d := d) hS (Or.inl rfl)) (by omega) ?_
  repeat refine e_s rfl ?_
  refine e_b (fun h => ?_) (fun h => ?_)
  · rw [if_neg (Int32.not_lt.mpr h)]
    repeat refine e_s rfl ?_
    exact e_r rfl
  · rw [if_pos (Int32.not_le.mp h)]
    repeat refine e_s rfl ?_
    exact e_r rfl
theorem w_61 : px_mt (d + 1) 61 [.ref c, .int h] I J R S n q (some (.int 0), I, J, R, S, n, q) := by
  unfold px_mt
  repeat refine e_s rfl ?_
  exact e_r rfl
theorem t_71 {x y : Int32} : px_mt (d + 1) 71 [.ref c, .int x, .int y] I J R S n q (some (.int 1), I, J, R, S, n, q) := by
  unfold px_mt
  repeat refine e_s rfl ?_
  exact e_r rfl
theorem t_69 {k : Nat} {dg : Bool} {y : Int32} (hS : S c = (k, 2)) (hk : k = 11 ∨ k = 15) : px_mt (d + 2) 69 [.ref c, .int (bI dg), .int y] I J R S n q (some (.int (bI (!dg))), I, J, R, S, n, q) := by
  unfold px_mt
  repeat refine e_s rfl ?_
  refine e_nz (fun h => ?_) (fun h => ?_)
  · rw [h]
    repeat refine e_s rfl ?_
    exact e_r rfl
  · rw [h]
    repeat refine e_s rfl ?_
    rcases hk with rfl | rfl <;> (
      refine e_cv rfl rfl rfl hS rfl rfl (t_71 (d := d)) (by omega) ?_
      repeat refine e_s rfl ?_
      exact e_r rfl)
theorem t_68 {dg nt : Bool} (hS : S c = (11, 2)) : px_mt (d + 3) 68 [.ref c, .int (bI dg), .int (bI nt)] I J R S n q (some (.int (bI (!nt && !dg))), I, J, R, S, n, q) := by
  unfold px_mt
  repeat refine e_s rfl ?_
  refine e_nz (fun h => ?_) (fun h => ?_)
  · rw [h]
    repeat refine e_s rfl ?_
    exact e_r rfl
  · rw [h]
    repeat refine e_s rfl ?_
    refine e_cv rfl rfl rfl hS rfl rfl (t_69 (d := d) hS (Or.inl rfl)) (by omega) ?_
    refine e_s rfl ?_
    refine e_z (fun g => ?_) (fun g => ?_)
    · rw [g]
      repeat refine e_s rfl ?_
      exact e_r rfl
    · rw [g]
      repeat refine e_s rfl ?_
      exact e_r rfl
theorem t_70 {dg nt : Bool} (hS : S c = (14, 2)) : px_mt (d + 2) 70 [.ref c, .int (bI dg), .int (bI nt)] I J R S n q (some (.int (bI (!(dg && nt)))), I, J, R, S, n, q) := by
  unfold px_mt
  repeat refine e_s rfl ?_
  refine e_z (fun h => ?_) (fun h => ?_)
  · rw [h]
    repeat refine e_s rfl ?_
    refine e_nz (fun g => ?_) (fun g => ?_)
    · rw [g]
      repeat refine e_s rfl ?_
      exact e_r rfl
    · rw [g]
      repeat refine e_s rfl ?_
      refine e_cv rfl rfl rfl hS rfl rfl (t_71 (d := d)) (by omega) ?_
      repeat refine e_s rfl ?_
      exact e_r rfl
  · rw [h]
    repeat refine e_s rfl ?_
    refine e_cv rfl rfl rfl hS rfl rfl (t_71 (d := d)) (by omega) ?_
    repeat refine e_s rfl ?_
    exact e_r rfl
def wM (kd : Nat) : Nat := match kd with
  | 0 => 66
  | 1 => 63
  | 2 => 65
  | 3 => 62
  | 4 => 61
  | _ => 64
/-- waits of the class: method wM kd -/
theorem r_wts (hk : kd ≤ 5) (hS : S c = (cls kd, 2)) : px_mt (d + 3) (wM kd) [.ref c, .int h] I J R S n q (some (.int (wts kd (I c 1) h)), I, J, R, S, n, q) := by
  rcases (show kd = 0 ∨ kd = 1 ∨ kd = 2 ∨ kd = 3 ∨ kd = 4 ∨ kd = 5 by omega) with rfl | rfl | rfl | rfl | rfl | rfl
  · exact (w_66 (d := d)).mono (by omega)
  · exact (w_63 (d := d) hS (Or.inr (Or.inl rfl))).mono (by omega)
  · exact (w_65 (d := d) hS).mono (by omega)
  · exact w_62 hS
  · exact (w_61 (d := d)).mono (by omega)
  · exact w_64 hS
theorem r_sty (hk : kd ≤ 5) (hS : S c = (cls kd, 2)) (hSc : S sc = (17, 8)) : px_mt (d + 4) 67 [.ref sc, .ref c] I J R S n q (some (.int (bI (sty kd (I sc 3) (I sc 4)))), I, J, R, S, n, q) := by
  have main : ∀ x y : Bool, x = decide (I sc 3 = 1) → y = decide (I sc 4 = 1) → px_ev (d + 4) 67 27 [some (.ref sc), some (.ref c)] [.int (bI y), .int (bI x), .ref c] I J R S n q (some (.int (bI (sty kd (I sc 3) (I sc 4)))), I, J, R, S, n, q) := by
    intro x y hx hy
    rcases (show kd = 0 ∨ kd = 1 ∨ kd = 2 ∨ kd = 3 ∨ kd = 4 ∨ kd = 5 by omega) with rfl | rfl | rfl | rfl | rfl | rfl
    · refine e_cv rfl rfl rfl hS rfl rfl (t_71 (d := d)) (by omega) ?_
      exact e_r rfl
    · refine e_cv rfl rfl rfl hS rfl rfl (t_71 (d := d)) (by omega) ?_
      exact e_r rfl
    · refine e_cv rfl rfl rfl hS rfl rfl (t_69 (d := d) hS (Or.inr rfl)) (by omega) ?_
      show px_ev _ _ _ _ _ _ _ _ _ _ _ (some (.int (bI (!decide (I sc 3 = 1)))), _)
      rw [← hx]
      cases x <;> exact e_r rfl
    · refine e_cv rfl rfl rfl hS rfl rfl (t_71 (d := d)) (by omega) ?_
      exact e_r rfl
    · refine e_cv rfl rfl rfl hS rfl rfl (t_68 (d := d) hS) (by omega) ?_
      show px_ev _ _ _ _ _ _ _ _ _ _ _ (some (.int (bI (!decide (I sc 4 = 1) && !decide (I sc 3 = 1)))), _)
      rw [← hx, ← hy]
      cases x <;> cases y <;> exact e_r rfl
    · refine e_cv rfl rfl rfl hS rfl rfl (t_70 (d := d) hS) (by omega) ?_
      show px_ev _ _ _ _ _ _ _ _ _ _ _ (some (.int (bI (!(decide (I sc 3 = 1) && decide (I sc 4 = 1))))), _)
      rw [← hx, ← hy]
      cases x <;> cases y <;> exact e_r rfl
  unfold px_mt
  refine e_s rfl ?_
  refine e_s rfl ?_
  refine e_gi rfl hSc rfl ?_
  repeat refine e_s rfl ?_
  have mid : ∀ x : Bool, x = decide (I sc 3 = 1) → px_ev (d + 4) 67 14 [some (.ref sc), some (.ref c)] [.int (bI x), .ref c] I J R S n q (some (.int (bI (sty kd (I sc 3) (I sc 4)))), I, J, R, S, n, q) := by
    intro x hx
    refine e_s rfl ?_
    refine e_gi rfl hSc rfl ?_
    repeat refine e_s rfl ?_
    refine e_b (fun g => ?_) (fun g => ?_)
    · repeat refine e_s rfl ?_
      exact main x false hx (decide_eq_false g).symm
    · repeat refine e_s rfl ?_
      exact main x true hx (decide_eq_true (Classical.not_not.mp g)).symm
  refine e_b (fun g => ?_) (fun g => ?_)
  · refine e_s rfl ?_
    exact mid false (decide_eq_false g).symm
  · refine e_s rfl ?_
    refine e_s rfl ?_
    exact mid true (decide_eq_true (Classical.not_not.mp g)).symm
end PXC1
/-! the model's -/
section PXC2
variable {D n q L kd c : Nat} {so : Option Nat} {I : px_HI} {J : px_HJ} {dr : px_HR} {ds : px_HS} {g i : Int32}
theorem r_sndM (hk : kd ≤ 5) (hc : c < 7) (hI : I 35 c = nI kd) : px_mt (D + 1) 150 [.ref 31, .int (nI c), .int g, .int i] I J (dR so dr) (dS L ds) n q (some (.int (snd kd (I 36 c) g i)), I, J, dR so dr, dS L ds, n, q) := by
  have main : ∀ x y : Int32, x = pst g → y = qut g → px_ev (D + 1) 150 33 [some (.ref 31), some (.int (nI c)), some (.int g), some (.int i), some (.int (nI kd)), some (.int x), some (.int y)] [] I J (dR so dr) (dS L ds) n q (some (.int (snd kd (I 36 c) g i)), I, J, dR so dr, dS L ds, n, q) := by
    intro x y hx hy
    rcases (show kd = 0 ∨ kd = 1 ∨ kd = 2 ∨ kd = 3 ∨ kd = 4 ∨ kd = 5 by omega) with rfl | rfl | rfl | rfl | rfl | rfl
    · repeat refine e_s rfl ?_
      exact e_r rfl
    · repeat refine e_s rfl ?_
      rw [hx]
      exact e_r rfl
    · repeat refine e_s rfl ?_
      rw [hy]
      exact e_r rfl
    · show px_ev _ _ _ _ _ _ _ _ _ _ _ (some (.int (if i = 1 ∧ g = 1 then pst g + I 36 c else pst g)), _)
      repeat refine e_s rfl ?_
      refine e_b (fun h => ?_) (fun h => ?_)
      · rw [if_neg (fun c => h c.1)]
        repeat refine e_s rfl ?_
        rw [hx]
        exact e_r rfl
      · repeat refine e_s rfl ?_
        refine e_b (fun h2 => ?_) (fun h2 => ?_)
        · rw [if_neg (fun c => h2 c.2)]
          repeat refine e_s rfl ?_
          rw [hx]
          exact e_r rfl
        · rw [if_pos ⟨Classical.not_not.mp h, Classical.not_not.mp h2⟩]
          repeat refine e_s rfl ?_
          refine e_ia rfl rfl rfl hc (by decide) ?_
          repeat refine e_s rfl ?_
          rw [hx]
          exact e_r rfl
    · show px_ev _ _ _ _ _ _ _ _ _ _ _ (some (.int (if g = 3 ∧ 0 < i then 15 else qut g)), _)
      repeat refine e_s rfl ?_
      refine e_b (fun h => ?_) (fun h => ?_)
      · rw [if_neg (fun c => h c.1)]
        repeat refine e_s rfl ?_
        rw [hy]
        exact e_r rfl
      · repeat refine e_s rfl ?_
        refine e_b (fun h2 => ?_) (fun h2 => ?_)
        · rw [if_neg (fun c => Int32.not_lt.mpr h2 c.2)]
          repeat refine e_s rfl ?_
          rw [hy]
          exact e_r rfl
        · rw [if_pos ⟨Classical.not_not.mp h, Int32.not_le.mp h2⟩]
          repeat refine e_s rfl ?_
          exact e_r rfl
    · show px_ev _ _ _ _ _ _ _ _ _ _ _ (some (.int (if g = 1 then pst g + i else pst g)), _)
      repeat refine e_s rfl ?_
      refine e_b (fun h => ?_) (fun h => ?_)
      · rw [if_neg h]
        repeat refine e_s rfl ?_
        rw [hx]
        exact e_r rfl
      · rw [if_pos (Classical.not_not.mp h)]
        repeat refine e_s rfl ?_
        rw [hx]
        exact e_r rfl
  have mid : ∀ x : Int32, x = pst g → px_ev (D + 1) 150 18 [some (.ref 31), some (.int (nI c)), some (.int g), some (.int i), some (.int (nI kd)), none, none] [.int x] I J (dR so dr) (dS L ds) n q (some (.int (snd kd (I 36 c) g i)), I, J, dR so dr, dS L ds, n, q) := by
    intro x hx
    repeat refine e_s rfl ?_
    refine e_b (fun h => ?_) (fun h => ?_)
    · refine e_s rfl ?_
      refine e_s rfl ?_
      exact main x 2 hx (by unfold qut; rw [if_neg h])
    · refine e_s rfl ?_
      refine e_s rfl ?_
      refine e_s rfl ?_
      exact main x 12 hx (by unfold qut; rw [if_pos (Classical.not_not.mp h)])
  unfold px_mt
  repeat refine e_s rfl ?_
  refine e_ia rfl rfl rfl hc (by decide) ?_
  rw [hI]
  repeat refine e_s rfl ?_
  refine e_b (fun h => ?_) (fun h => ?_)
  · refine e_s rfl ?_
    exact mid 1 (by unfold pst; rw [if_neg h])
  · refine e_s rfl ?_
    refine e_s rfl ?_
    exact mid 9 (by unfold pst; rw [if_pos (Classical.not_not.mp h)])
theorem r_wtsM (hk : kd ≤ 5) (hc : c < 7) (hI : I 35 c = nI kd) : px_mt (D + 1) 151 [.ref 31, .int (nI c)] I J (dR so dr) (dS L ds) n q (some (.int (wts kd (I 36 c) (I 31 7))), I, J, dR so dr, dS L ds, n, q) := by
  unfold px_mt
  repeat refine e_s rfl ?_
  refine e_ia rfl rfl rfl hc (by decide) ?_
  rw [hI]
  repeat refine e_s rfl ?_
  refine e_ia rfl rfl rfl hc (by decide) ?_
  rcases (show kd = 0 ∨ kd = 1 ∨ kd = 2 ∨ kd = 3 ∨ kd = 4 ∨ kd = 5 by omega) with rfl | rfl | rfl | rfl | rfl | rfl
  · repeat refine e_s rfl ?_
    exact e_r rfl
  · repeat refine e_s rfl ?_
    exact e_r rfl
  · repeat refine e_s rfl ?_
    exact e_r rfl
  · show px_ev _ _ _ _ _ _ _ _ _ _ _ (some (.int (if I 31 7 < 12 then 2 * (3 + I 36 c / 3) else 3 + I 36 c / 3)), _)
    repeat refine e_s rfl ?_
    refine e_b (fun h => ?_) (fun h => ?_)
    · rw [if_neg (Int32.not_lt.mpr h)]
      repeat refine e_s rfl ?_
      exact e_r rfl
    · rw [if_pos (Int32.not_le.mp h)]
      repeat refine e_s rfl ?_
      exact e_r rfl
  · repeat refine e_s rfl ?_
    exact e_r rfl
  · repeat refine e_s rfl ?_
    exact e_r rfl
theorem r_styM (hk : kd ≤ 5) (hc : c < 7) (hI : I 35 c = nI kd) : px_mt (D + 1) 152 [.ref 31, .int (nI c)] I J (dR so dr) (dS L ds) n q (some (.int (bI (sty kd (I 31 10) (I 31 11)))), I, J, dR so dr, dS L ds, n, q) := by
  unfold px_mt
  repeat refine e_s rfl ?_
  refine e_ia rfl rfl rfl hc (by decide) ?_
  rw [hI]
  rcases (show kd = 0 ∨ kd = 1 ∨ kd = 2 ∨ kd = 3 ∨ kd = 4 ∨ kd = 5 by omega) with rfl | rfl | rfl | rfl | rfl | rfl
  · repeat refine e_s rfl ?_
    exact e_r rfl
  · repeat refine e_s rfl ?_
    exact e_r rfl
  · show px_ev _ _ _ _ _ _ _ _ _ _ _ (some (.int (bI (!decide (I 31 10 = 1)))), _)
    repeat refine e_s rfl ?_
    refine e_b (fun h => ?_) (fun h => ?_)
    · rw [decide_eq_true h]
      repeat refine e_s rfl ?_
      exact e_r rfl
    · rw [decide_eq_false h]
      repeat refine e_s rfl ?_
      exact e_r rfl
  · repeat refine e_s rfl ?_
    exact e_r rfl
  · show px_ev _ _ _ _ _ _ _ _ _ _ _ (some (.int (bI (!decide (I 31 11 = 1) && !decide (I 31 10 = 1)))), _)
    repeat refine e_s rfl ?_
    refine e_b (fun h => ?_) (fun h => ?_)
    · rw [decide_eq_true h]
      repeat refine e_s rfl ?_
      exact e_r rfl
    · rw [decide_eq_false h]
      repeat refine e_s rfl ?_
      refine e_b (fun h => ?_) (fun h => ?_)
      · rw [decide_eq_true h]
        repeat refine e_s rfl ?_
        exact e_r rfl
      · rw [decide_eq_false h]
        repeat refine e_s rfl ?_
        exact e_r rfl
  · show px_ev _ _ _ _ _ _ _ _ _ _ _ (some (.int (bI (!(decide (I 31 10 = 1) && decide (I 31 11 = 1))))), _)
    repeat refine e_s rfl ?_
    refine e_b (fun h => ?_) (fun h => ?_)
    · rw [decide_eq_false h]
      repeat refine e_s rfl ?_
      exact e_r rfl
    · rw [decide_eq_true (Classical.not_not.mp h)]
      repeat refine e_s rfl ?_
      refine e_b (fun h => ?_) (fun h => ?_)
      · rw [decide_eq_false h]
        repeat refine e_s rfl ?_
        exact e_r rfl
      · rw [decide_eq_true (Classical.not_not.mp h)]
        repeat refine e_s rfl ?_
        exact e_r rfl
end PXC2
