/-! one instruction: the real machine follows (no heap is touched) -/
section PXS
variable {E : px_E} {p : Program} {l : Launch} {e : Env} {Rm : Room} {s : State} {mi : MethodId} {args : Array Value} {below : List Frame} {meth : Method} {c : Code} {Q : State → Prop} {n0 q0 m pc : Nat} {pl pl' : px_L} {st st' : List Value} {I I' : px_HI} {J J' : px_HJ} {R R' : px_HR} {S S' : px_HS} {n n' q q' pc' a b cc nx : Nat} {tb : List (Nat × Nat)} {v : Value}
theorem px_s0 (hA : px_At E p s mi args meth c n0 m) (hD : px_D m pc (0, a, b, cc, nx, tb, v)) (hs : px_st (0, a, b, cc, nx, tb, v) pl st I J R S n q = some (pc', pl', st', I', J', R', S', n', q')) (hroom : n' ≤ n0 + Rm.cells ∧ q' ≤ q0 + Rm.slots) (hfr : 1 ≤ Rm.frames ∧ 100 ≤ Rm.locals) (hg : px_Go E p l e Rm s mi args below meth c Q n0 q0 m pc' pl' st' I' J' R' S' n' q') : px_Go E p l e Rm s mi args below meth c Q n0 q0 m pc pl st I J R S n q := by
  intro H locs ls cells slots hc hq hR hL hS
  obtain ⟨hd, hnx, hcc⟩ := hD
  obtain ⟨hm, hx, hb, hr, hlk, hml, hown, hts, hname, hK, hbs⟩ := hA
  simp only [px_st] at hs
  simp only [px_ins] at hd hnx
  split at hs
  · rename_i x hx0
    simp only [Option.some.injEq, Prod.mk.injEq] at hs
    obtain ⟨rfl, rfl, rfl, rfl, rfl, rfl, rfl, rfl, rfl⟩ := hs
    have hl := hL.2.2.2 a _ hx0
    have h := hg H locs ls cells slots hc hq hR hL hS
    by_cases h4 : a < 4
    · rw [if_pos h4] at hd hnx
      subst hnx
      exact lv_iload_n hx hb hd (show (Fin.ofNat 4 a).val = a from Nat.mod_eq_of_lt h4) hl h
    · rw [if_neg h4] at hd hnx
      subst hnx
      exact lv_iload hx hb hd hl h
  · cases hs
theorem px_s1 (hA : px_At E p s mi args meth c n0 m) (hD : px_D m pc (1, a, b, cc, nx, tb, v)) (hs : px_st (1, a, b, cc, nx, tb, v) pl st I J R S n q = some (pc', pl', st', I', J', R', S', n', q')) (hroom : n' ≤ n0 + Rm.cells ∧ q' ≤ q0 + Rm.slots) (hfr : 1 ≤ Rm.frames ∧ 100 ≤ Rm.locals) (hg : px_Go E p l e Rm s mi args below meth c Q n0 q0 m pc' pl' st' I' J' R' S' n' q') : px_Go E p l e Rm s mi args below meth c Q n0 q0 m pc pl st I J R S n q := by
  intro H locs ls cells slots hc hq hR hL hS
  obtain ⟨hd, hnx, hcc⟩ := hD
  obtain ⟨hm, hx, hb, hr, hlk, hml, hown, hts, hname, hK, hbs⟩ := hA
  simp only [px_st] at hs
  simp only [px_ins] at hd hnx
  split at hs
  · rename_i x hx0
    simp only [Option.some.injEq, Prod.mk.injEq] at hs
    obtain ⟨rfl, rfl, rfl, rfl, rfl, rfl, rfl, rfl, rfl⟩ := hs
    have hl := hL.2.2.2 a _ hx0
    have h := hg H locs ls cells slots hc hq hR hL hS
    by_cases h4 : a < 4
    · rw [if_pos h4] at hd hnx
      subst hnx
      exact lv_lload_n hx hb hd (show (Fin.ofNat 4 a).val = a from Nat.mod_eq_of_lt h4) hl h
    · rw [if_neg h4] at hd hnx
      subst hnx
      exact lv_lload hx hb hd hl h
  · cases hs
theorem px_s2 (hA : px_At E p s mi args meth c n0 m) (hD : px_D m pc (2, a, b, cc, nx, tb, v)) (hs : px_st (2, a, b, cc, nx, tb, v) pl st I J R S n q = some (pc', pl', st', I', J', R', S', n', q')) (hroom : n' ≤ n0 + Rm.cells ∧ q' ≤ q0 + Rm.slots) (hfr : 1 ≤ Rm.frames ∧ 100 ≤ Rm.locals) (hg : px_Go E p l e Rm s mi args below meth c Q n0 q0 m pc' pl' st' I' J' R' S' n' q') : px_Go E p l e Rm s mi args below meth c Q n0 q0 m pc pl st I J R S n q := by
  intro H locs ls cells slots hc hq hR hL hS
  obtain ⟨hd, hnx, hcc⟩ := hD
  obtain ⟨hm, hx, hb, hr, hlk, hml, hown, hts, hname, hK, hbs⟩ := hA
  simp only [px_st] at hs
  simp only [px_ins] at hd hnx
  split at hs
  · rename_i x hx0
    simp only [Option.some.injEq, Prod.mk.injEq] at hs
    obtain ⟨rfl, rfl, rfl, rfl, rfl, rfl, rfl, rfl, rfl⟩ := hs
    have hl := hL.2.2.2 a _ hx0
    have h := hg H locs ls cells slots hc hq hR hL hS
    by_cases h4 : a < 4
    · rw [if_pos h4] at hd hnx
      subst hnx
      exact lv_aload_n hx hb hd (show (Fin.ofNat 4 a).val = a from Nat.mod_eq_of_lt h4) hl h
    · rw [if_neg h4] at hd hnx
      subst hnx
      exact lv_aload hx hb hd hl h
  · rename_i hx0
    simp only [Option.some.injEq, Prod.mk.injEq] at hs
    obtain ⟨rfl, rfl, rfl, rfl, rfl, rfl, rfl, rfl, rfl⟩ := hs
    have hl := hL.2.2.2 a _ hx0
    have h := hg H locs ls cells slots hc hq hR hL hS
    by_cases h4 : a < 4
    · rw [if_pos h4] at hd hnx
      subst hnx
      exact lv_aload_nN hx hb hd (show (Fin.ofNat 4 a).val = a from Nat.mod_eq_of_lt h4) hl h
    · rw [if_neg h4] at hd hnx
      subst hnx
      exact lv_aloadN hx hb hd hl h
  · cases hs
theorem px_s3 (hA : px_At E p s mi args meth c n0 m) (hD : px_D m pc (3, a, b, cc, nx, tb, v)) (hs : px_st (3, a, b, cc, nx, tb, v) pl st I J R S n q = some (pc', pl', st', I', J', R', S', n', q')) (hroom : n' ≤ n0 + Rm.cells ∧ q' ≤ q0 + Rm.slots) (hfr : 1 ≤ Rm.frames ∧ 100 ≤ Rm.locals) (hg : px_Go E p l e Rm s mi args below meth c Q n0 q0 m pc' pl' st' I' J' R' S' n' q') : px_Go E p l e Rm s mi args below meth c Q n0 q0 m pc pl st I J R S n q := by
  intro H locs ls cells slots hc hq hR hL hS
  obtain ⟨hd, hnx, hcc⟩ := hD
  obtain ⟨hm, hx, hb, hr, hlk, hml, hown, hts, hname, hK, hbs⟩ := hA
  simp only [px_st] at hs
  simp only [px_ins] at hd hnx
  split at hs
  · split at hs
    · rename_i ho
      simp only [Option.some.injEq, Prod.mk.injEq] at hs
      obtain ⟨rfl, rfl, rfl, rfl, rfl, rfl, rfl, rfl, rfl⟩ := hs
      have hlt : a < px_nl m := by rw [← hL.2.1]; exact px_ok_lt ho
      have h := fun ls1 h1 => hg H locs ls1 cells slots hc hq hR h1 hS
      by_cases h4 : a < 4
      · rw [if_pos h4] at hd hnx
        subst hnx
        exact lv_istore_n hx hb hd (show (Fin.ofNat 4 a).val = a from Nat.mod_eq_of_lt h4) (px_as_has hL) hlt rfl (fun ls1 h1 => h ls1 (hL.st1 ho h1))
      · rw [if_neg h4] at hd hnx
        subst hnx
        exact lv_istore hx hb hd (px_as_has hL) hlt rfl (fun ls1 h1 => h ls1 (hL.st1 ho h1))
    · cases hs
  · cases hs
theorem px_s5 (hA : px_At E p s mi args meth c n0 m) (hD : px_D m pc (5, a, b, cc, nx, tb, v)) (hs : px_st (5, a, b, cc, nx, tb, v) pl st I J R S n q = some (pc', pl', st', I', J', R', S', n', q')) (hroom : n' ≤ n0 + Rm.cells ∧ q' ≤ q0 + Rm.slots) (hfr : 1 ≤ Rm.frames ∧ 100 ≤ Rm.locals) (hg : px_Go E p l e Rm s mi args below meth c Q n0 q0 m pc' pl' st' I' J' R' S' n' q') : px_Go E p l e Rm s mi args below meth c Q n0 q0 m pc pl st I J R S n q := by
  intro H locs ls cells slots hc hq hR hL hS
  obtain ⟨hd, hnx, hcc⟩ := hD
  obtain ⟨hm, hx, hb, hr, hlk, hml, hown, hts, hname, hK, hbs⟩ := hA
  simp only [px_st] at hs
  simp only [px_ins] at hd hnx
  split at hs
  · split at hs
    · rename_i ho
      simp only [Option.some.injEq, Prod.mk.injEq] at hs
      obtain ⟨rfl, rfl, rfl, rfl, rfl, rfl, rfl, rfl, rfl⟩ := hs
      have hlt : a < px_nl m := by rw [← hL.2.1]; exact px_ok_lt ho
      have h := fun ls1 h1 => hg H locs ls1 cells slots hc hq hR h1 hS
      by_cases h4 : a < 4
      · rw [if_pos h4] at hd hnx
        subst hnx
        exact lv_astore_n hx hb hd (show (Fin.ofNat 4 a).val = a from Nat.mod_eq_of_lt h4) (px_as_has hL) hlt rfl (fun ls1 h1 => h ls1 (hL.st1 ho h1))
      · rw [if_neg h4] at hd hnx
        subst hnx
        exact lv_astore hx hb hd (px_as_has hL) hlt rfl (fun ls1 h1 => h ls1 (hL.st1 ho h1))
    · cases hs
  · split at hs
    · rename_i ho
      simp only [Option.some.injEq, Prod.mk.injEq] at hs
      obtain ⟨rfl, rfl, rfl, rfl, rfl, rfl, rfl, rfl, rfl⟩ := hs
      have hlt : a < px_nl m := by rw [← hL.2.1]; exact px_ok_lt ho
      have h := fun ls1 h1 => hg H locs ls1 cells slots hc hq hR h1 hS
      by_cases h4 : a < 4
      · rw [if_pos h4] at hd hnx
        subst hnx
        exact lv_astore_nN hx hb hd (show (Fin.ofNat 4 a).val = a from Nat.mod_eq_of_lt h4) (px_as_has hL) hlt rfl (fun ls1 h1 => h ls1 (hL.st1 ho h1))
      · rw [if_neg h4] at hd hnx
        subst hnx
        exact lv_astoreN hx hb hd (px_as_has hL) hlt rfl (fun ls1 h1 => h ls1 (hL.st1 ho h1))
    · cases hs
  · cases hs
theorem px_s4 (hA : px_At E p s mi args meth c n0 m) (hD : px_D m pc (4, a, b, cc, nx, tb, v)) (hs : px_st (4, a, b, cc, nx, tb, v) pl st I J R S n q = some (pc', pl', st', I', J', R', S', n', q')) (hroom : n' ≤ n0 + Rm.cells ∧ q' ≤ q0 + Rm.slots) (hfr : 1 ≤ Rm.frames ∧ 100 ≤ Rm.locals) (hg : px_Go E p l e Rm s mi args below meth c Q n0 q0 m pc' pl' st' I' J' R' S' n' q') : px_Go E p l e Rm s mi args below meth c Q n0 q0 m pc pl st I J R S n q := by
  intro H locs ls cells slots hc hq hR hL hS
  obtain ⟨hd, hnx, hcc⟩ := hD
  obtain ⟨hm, hx, hb, hr, hlk, hml, hown, hts, hname, hK, hbs⟩ := hA
  simp only [px_st] at hs
  simp only [px_ins] at hd hnx
  split at hs
  · split at hs
    · rename_i ho
      simp only [Bool.and_eq_true, Nat.blt_eq] at ho
      simp only [Option.some.injEq, Prod.mk.injEq] at hs
      obtain ⟨rfl, rfl, rfl, rfl, rfl, rfl, rfl, rfl, rfl⟩ := hs
      have hlt : a + 1 < px_nl m := by rw [← hL.2.1]; exact ho.2
      have h := fun ls1 h1 => hg H locs ls1 cells slots hc hq hR h1 hS
      by_cases h4 : a < 4
      · rw [if_pos h4] at hd hnx
        subst hnx
        exact lv_lstore_n hx hb hd (show (Fin.ofNat 4 a).val = a from Nat.mod_eq_of_lt h4) (px_as_has hL) hlt rfl (fun ls1 h1 => h ls1 (hL.st2 ho.1 h1))
      · rw [if_neg h4] at hd hnx
        subst hnx
        exact lv_lstore hx hb hd (px_as_has hL) hlt rfl (fun ls1 h1 => h ls1 (hL.st2 ho.1 h1))
    · cases hs
  · cases hs
theorem px_s7 (hA : px_At E p s mi args meth c n0 m) (hD : px_D m pc (7, a, b, cc, nx, tb, v)) (hs : px_st (7, a, b, cc, nx, tb, v) pl st I J R S n q = some (pc', pl', st', I', J', R', S', n', q')) (hroom : n' ≤ n0 + Rm.cells ∧ q' ≤ q0 + Rm.slots) (hfr : 1 ≤ Rm.frames ∧ 100 ≤ Rm.locals) (hg : px_Go E p l e Rm s mi args below meth c Q n0 q0 m pc' pl' st' I' J' R' S' n' q') : px_Go E p l e Rm s mi args below meth c Q n0 q0 m pc pl st I J R S n q := by
  intro H locs ls cells slots hc hq hR hL hS
  obtain ⟨hd, hnx, hcc⟩ := hD
  obtain ⟨hm, hx, hb, hr, hlk, hml, hown, hts, hname, hK, hbs⟩ := hA
  simp only [px_st] at hs
  simp only [px_ins] at hd hnx
  split at hs
  · rename_i x y hx0
    split at hs
    · rename_i ho
      simp only [Option.some.injEq, Prod.mk.injEq] at hs
      obtain ⟨rfl, rfl, rfl, rfl, rfl, rfl, rfl, rfl, rfl⟩ := hs
      subst hnx
      have hlt : a < px_nl m := by rw [← hL.2.1]; exact px_ok_lt ho
      have h := fun ls1 h1 => hg H locs ls1 cells slots hc hq hR h1 hS
      obtain ⟨k, hk⟩ := List.getElem?_of_mem (px_as_mem (E := E) hx0)
      exact lv_iinc hx hb hd (px_as_has hL) hk (show x + Int32.ofInt y.toInt = x + y by rw [Int32.ofInt_toInt]) hlt rfl (fun ls1 h1 => h ls1 (hL.st1 ho h1))
    · cases hs
  · cases hs
theorem px_s11 (hA : px_At E p s mi args meth c n0 m) (hD : px_D m pc (11, a, b, cc, nx, tb, v)) (hs : px_st (11, a, b, cc, nx, tb, v) pl st I J R S n q = some (pc', pl', st', I', J', R', S', n', q')) (hroom : n' ≤ n0 + Rm.cells ∧ q' ≤ q0 + Rm.slots) (hfr : 1 ≤ Rm.frames ∧ 100 ≤ Rm.locals) (hg : px_Go E p l e Rm s mi args below meth c Q n0 q0 m pc' pl' st' I' J' R' S' n' q') : px_Go E p l e Rm s mi args below meth c Q n0 q0 m pc pl st I J R S n q := by
  intro H locs ls cells slots hc hq hR hL hS
  obtain ⟨hd, hnx, hcc⟩ := hD
  obtain ⟨hm, hx, hb, hr, hlk, hml, hown, hts, hname, hK, hbs⟩ := hA
  simp only [px_st] at hs
  simp only [px_ins] at hd hnx
  split at hs
  · simp only [Option.some.injEq, Prod.mk.injEq] at hs
    obtain ⟨rfl, rfl, rfl, rfl, rfl, rfl, rfl, rfl, rfl⟩ := hs
    subst hnx
    exact lv_i2l hx hb hd rfl (hg H locs ls cells slots hc hq hR hL hS)
  · cases hs
theorem px_s12 (hA : px_At E p s mi args meth c n0 m) (hD : px_D m pc (12, a, b, cc, nx, tb, v)) (hs : px_st (12, a, b, cc, nx, tb, v) pl st I J R S n q = some (pc', pl', st', I', J', R', S', n', q')) (hroom : n' ≤ n0 + Rm.cells ∧ q' ≤ q0 + Rm.slots) (hfr : 1 ≤ Rm.frames ∧ 100 ≤ Rm.locals) (hg : px_Go E p l e Rm s mi args below meth c Q n0 q0 m pc' pl' st' I' J' R' S' n' q') : px_Go E p l e Rm s mi args below meth c Q n0 q0 m pc pl st I J R S n q := by
  intro H locs ls cells slots hc hq hR hL hS
  obtain ⟨hd, hnx, hcc⟩ := hD
  obtain ⟨hm, hx, hb, hr, hlk, hml, hown, hts, hname, hK, hbs⟩ := hA
  simp only [px_st] at hs
  simp only [px_ins] at hd hnx
  split at hs
  · simp only [Option.some.injEq, Prod.mk.injEq] at hs
    obtain ⟨rfl, rfl, rfl, rfl, rfl, rfl, rfl, rfl, rfl⟩ := hs
    subst hnx
    exact lv_l2i hx hb hd rfl (hg H locs ls cells slots hc hq hR hL hS)
  · cases hs
theorem px_s13 (hA : px_At E p s mi args meth c n0 m) (hD : px_D m pc (13, a, b, cc, nx, tb, v)) (hs : px_st (13, a, b, cc, nx, tb, v) pl st I J R S n q = some (pc', pl', st', I', J', R', S', n', q')) (hroom : n' ≤ n0 + Rm.cells ∧ q' ≤ q0 + Rm.slots) (hfr : 1 ≤ Rm.frames ∧ 100 ≤ Rm.locals) (hg : px_Go E p l e Rm s mi args below meth c Q n0 q0 m pc' pl' st' I' J' R' S' n' q') : px_Go E p l e Rm s mi args below meth c Q n0 q0 m pc pl st I J R S n q := by
  intro H locs ls cells slots hc hq hR hL hS
  obtain ⟨hd, hnx, hcc⟩ := hD
  obtain ⟨hm, hx, hb, hr, hlk, hml, hown, hts, hname, hK, hbs⟩ := hA
  simp only [px_st] at hs
  simp only [px_ins] at hd hnx
  split at hs
  · simp only [Option.some.injEq, Prod.mk.injEq] at hs
    obtain ⟨rfl, rfl, rfl, rfl, rfl, rfl, rfl, rfl, rfl⟩ := hs
    subst hnx
    exact lv_lneg hx hb hd (hg H locs ls cells slots hc hq hR hL hS)
  · cases hs
theorem px_s14 (hA : px_At E p s mi args meth c n0 m) (hD : px_D m pc (14, a, b, cc, nx, tb, v)) (hs : px_st (14, a, b, cc, nx, tb, v) pl st I J R S n q = some (pc', pl', st', I', J', R', S', n', q')) (hroom : n' ≤ n0 + Rm.cells ∧ q' ≤ q0 + Rm.slots) (hfr : 1 ≤ Rm.frames ∧ 100 ≤ Rm.locals) (hg : px_Go E p l e Rm s mi args below meth c Q n0 q0 m pc' pl' st' I' J' R' S' n' q') : px_Go E p l e Rm s mi args below meth c Q n0 q0 m pc pl st I J R S n q := by
  intro H locs ls cells slots hc hq hR hL hS
  obtain ⟨hd, hnx, hcc⟩ := hD
  obtain ⟨hm, hx, hb, hr, hlk, hml, hown, hts, hname, hK, hbs⟩ := hA
  simp only [px_st] at hs
  simp only [px_ins] at hd hnx
  split at hs
  · simp only [Option.some.injEq, Prod.mk.injEq] at hs
    obtain ⟨rfl, rfl, rfl, rfl, rfl, rfl, rfl, rfl, rfl⟩ := hs
    subst hnx
    exact W.lcmp hx hb hd (hg H locs ls cells slots hc hq hR hL hS)
  · cases hs
theorem px_s8 (hA : px_At E p s mi args meth c n0 m) (hD : px_D m pc (8, a, b, cc, nx, tb, v)) (hs : px_st (8, a, b, cc, nx, tb, v) pl st I J R S n q = some (pc', pl', st', I', J', R', S', n', q')) (hroom : n' ≤ n0 + Rm.cells ∧ q' ≤ q0 + Rm.slots) (hfr : 1 ≤ Rm.frames ∧ 100 ≤ Rm.locals) (hg : px_Go E p l e Rm s mi args below meth c Q n0 q0 m pc' pl' st' I' J' R' S' n' q') : px_Go E p l e Rm s mi args below meth c Q n0 q0 m pc pl st I J R S n q := by
  intro H locs ls cells slots hc hq hR hL hS
  obtain ⟨hd, hnx, hcc⟩ := hD
  obtain ⟨hm, hx, hb, hr, hlk, hml, hown, hts, hname, hK, hbs⟩ := hA
  simp only [px_st] at hs
  simp only [px_ins] at hd hnx
  simp only [px_cc, Nat.ble_eq] at hcc
  split at hs
  · rcases (show b = 0 ∨ b = 1 ∨ b = 2 ∨ b = 3 ∨ b = 4 ∨ b = 5 ∨ b = 6 ∨ b = 7 ∨ b = 8 by omega) with rfl | rfl | rfl | rfl | rfl | rfl | rfl | rfl | rfl
    · simp only [px_ib] at hs hd hnx
      simp only [Option.some.injEq, Prod.mk.injEq] at hs
      obtain ⟨rfl, rfl, rfl, rfl, rfl, rfl, rfl, rfl, rfl⟩ := hs
      subst hnx
      exact lv_iadd hx hb hd (hg H locs ls cells slots hc hq hR hL hS)
    · simp only [px_ib] at hs hd hnx
      simp only [Option.some.injEq, Prod.mk.injEq] at hs
      obtain ⟨rfl, rfl, rfl, rfl, rfl, rfl, rfl, rfl, rfl⟩ := hs
      subst hnx
      exact lv_isub hx hb hd (hg H locs ls cells slots hc hq hR hL hS)
    · simp only [px_ib] at hs hd hnx
      simp only [Option.some.injEq, Prod.mk.injEq] at hs
      obtain ⟨rfl, rfl, rfl, rfl, rfl, rfl, rfl, rfl, rfl⟩ := hs
      subst hnx
      exact lv_imul hx hb hd (hg H locs ls cells slots hc hq hR hL hS)
    · simp only [px_ib] at hs hd hnx
      simp only [Option.some.injEq, Prod.mk.injEq] at hs
      obtain ⟨rfl, rfl, rfl, rfl, rfl, rfl, rfl, rfl, rfl⟩ := hs
      subst hnx
      exact lv_iand hx hb hd (hg H locs ls cells slots hc hq hR hL hS)
    · simp only [px_ib] at hs hd hnx
      simp only [Option.some.injEq, Prod.mk.injEq] at hs
      obtain ⟨rfl, rfl, rfl, rfl, rfl, rfl, rfl, rfl, rfl⟩ := hs
      subst hnx
      exact lv_ior hx hb hd (hg H locs ls cells slots hc hq hR hL hS)
    · simp only [px_ib] at hs hd hnx
      simp only [Option.some.injEq, Prod.mk.injEq] at hs
      obtain ⟨rfl, rfl, rfl, rfl, rfl, rfl, rfl, rfl, rfl⟩ := hs
      subst hnx
      exact lv_ishl hx hb hd (hg H locs ls cells slots hc hq hR hL hS)
    · simp only [px_ib] at hs hd hnx
      simp only [Option.some.injEq, Prod.mk.injEq] at hs
      obtain ⟨rfl, rfl, rfl, rfl, rfl, rfl, rfl, rfl, rfl⟩ := hs
      subst hnx
      exact lv_ishr hx hb hd (hg H locs ls cells slots hc hq hR hL hS)
    · simp only [px_ib] at hs hd hnx
      simp only [Option.some.injEq, Prod.mk.injEq] at hs
      obtain ⟨rfl, rfl, rfl, rfl, rfl, rfl, rfl, rfl, rfl⟩ := hs
      subst hnx
      exact lv_iushr hx hb hd rfl (hg H locs ls cells slots hc hq hR hL hS)
    · simp only [px_ib] at hs hd hnx
      split at hs
      · rename_i hz
        split at hz
        · cases hz
        · rename_i hne
          cases hz
          simp only [Option.some.injEq, Prod.mk.injEq] at hs
          obtain ⟨rfl, rfl, rfl, rfl, rfl, rfl, rfl, rfl, rfl⟩ := hs
          subst hnx
          exact lv_idiv hx hb hd hne (hg H locs ls cells slots hc hq hR hL hS)
      · cases hs
  · cases hs
theorem px_s9 (hA : px_At E p s mi args meth c n0 m) (hD : px_D m pc (9, a, b, cc, nx, tb, v)) (hs : px_st (9, a, b, cc, nx, tb, v) pl st I J R S n q = some (pc', pl', st', I', J', R', S', n', q')) (hroom : n' ≤ n0 + Rm.cells ∧ q' ≤ q0 + Rm.slots) (hfr : 1 ≤ Rm.frames ∧ 100 ≤ Rm.locals) (hg : px_Go E p l e Rm s mi args below meth c Q n0 q0 m pc' pl' st' I' J' R' S' n' q') : px_Go E p l e Rm s mi args below meth c Q n0 q0 m pc pl st I J R S n q := by
  intro H locs ls cells slots hc hq hR hL hS
  obtain ⟨hd, hnx, hcc⟩ := hD
  obtain ⟨hm, hx, hb, hr, hlk, hml, hown, hts, hname, hK, hbs⟩ := hA
  simp only [px_st] at hs
  simp only [px_ins] at hd hnx
  simp only [px_cc, Nat.ble_eq] at hcc
  split at hs
  · rcases (show b = 0 ∨ b = 1 ∨ b = 2 ∨ b = 3 ∨ b = 4 by omega) with rfl | rfl | rfl | rfl | rfl
    · simp only [px_lb] at hs hd hnx
      simp only [Option.some.injEq, Prod.mk.injEq] at hs
      obtain ⟨rfl, rfl, rfl, rfl, rfl, rfl, rfl, rfl, rfl⟩ := hs
      subst hnx
      exact lv_ladd hx hb hd (hg H locs ls cells slots hc hq hR hL hS)
    · simp only [px_lb] at hs hd hnx
      simp only [Option.some.injEq, Prod.mk.injEq] at hs
      obtain ⟨rfl, rfl, rfl, rfl, rfl, rfl, rfl, rfl, rfl⟩ := hs
      subst hnx
      exact lv_lsub hx hb hd (hg H locs ls cells slots hc hq hR hL hS)
    · simp only [px_lb] at hs hd hnx
      simp only [Option.some.injEq, Prod.mk.injEq] at hs
      obtain ⟨rfl, rfl, rfl, rfl, rfl, rfl, rfl, rfl, rfl⟩ := hs
      subst hnx
      exact lv_lmul hx hb hd (hg H locs ls cells slots hc hq hR hL hS)
    · simp only [px_lb] at hs hd hnx
      split at hs
      · rename_i hz
        split at hz
        · cases hz
        · rename_i hne
          cases hz
          simp only [Option.some.injEq, Prod.mk.injEq] at hs
          obtain ⟨rfl, rfl, rfl, rfl, rfl, rfl, rfl, rfl, rfl⟩ := hs
          subst hnx
          exact lv_ldiv hx hb hd hne (hg H locs ls cells slots hc hq hR hL hS)
      · cases hs
    · simp only [px_lb] at hs hd hnx
      split at hs
      · rename_i hz
        split at hz
        · cases hz
        · rename_i hne
          cases hz
          simp only [Option.some.injEq, Prod.mk.injEq] at hs
          obtain ⟨rfl, rfl, rfl, rfl, rfl, rfl, rfl, rfl, rfl⟩ := hs
          subst hnx
          exact lv_lrem hx hb hd hne (hg H locs ls cells slots hc hq hR hL hS)
      · cases hs
  · cases hs
theorem px_s10 (hA : px_At E p s mi args meth c n0 m) (hD : px_D m pc (10, a, b, cc, nx, tb, v)) (hs : px_st (10, a, b, cc, nx, tb, v) pl st I J R S n q = some (pc', pl', st', I', J', R', S', n', q')) (hroom : n' ≤ n0 + Rm.cells ∧ q' ≤ q0 + Rm.slots) (hfr : 1 ≤ Rm.frames ∧ 100 ≤ Rm.locals) (hg : px_Go E p l e Rm s mi args below meth c Q n0 q0 m pc' pl' st' I' J' R' S' n' q') : px_Go E p l e Rm s mi args below meth c Q n0 q0 m pc pl st I J R S n q := by
  intro H locs ls cells slots hc hq hR hL hS
  obtain ⟨hd, hnx, hcc⟩ := hD
  obtain ⟨hm, hx, hb, hr, hlk, hml, hown, hts, hname, hK, hbs⟩ := hA
  simp only [px_st] at hs
  simp only [px_ins] at hd hnx
  simp only [px_cc, Nat.ble_eq] at hcc
  split at hs
  · rcases (show b = 0 ∨ b = 1 ∨ b = 2 ∨ b = 3 by omega) with rfl | rfl | rfl | rfl
    · simp only [px_iu] at hs hd hnx
      simp only [Option.some.injEq, Prod.mk.injEq] at hs
      obtain ⟨rfl, rfl, rfl, rfl, rfl, rfl, rfl, rfl, rfl⟩ := hs
      subst hnx
      exact lv_ineg hx hb hd (hg H locs ls cells slots hc hq hR hL hS)
    · simp only [px_iu] at hs hd hnx
      simp only [Option.some.injEq, Prod.mk.injEq] at hs
      obtain ⟨rfl, rfl, rfl, rfl, rfl, rfl, rfl, rfl, rfl⟩ := hs
      subst hnx
      exact lv_i2b hx hb hd rfl (hg H locs ls cells slots hc hq hR hL hS)
    · simp only [px_iu] at hs hd hnx
      simp only [Option.some.injEq, Prod.mk.injEq] at hs
      obtain ⟨rfl, rfl, rfl, rfl, rfl, rfl, rfl, rfl, rfl⟩ := hs
      subst hnx
      exact lv_i2s hx hb hd rfl (hg H locs ls cells slots hc hq hR hL hS)
    · simp only [px_iu] at hs hd hnx
      simp only [Option.some.injEq, Prod.mk.injEq] at hs
      obtain ⟨rfl, rfl, rfl, rfl, rfl, rfl, rfl, rfl, rfl⟩ := hs
      subst hnx
      exact lv_i2c hx hb hd rfl (hg H locs ls cells slots hc hq hR hL hS)
  · cases hs
theorem px_s15 (hA : px_At E p s mi args meth c n0 m) (hD : px_D m pc (15, a, b, cc, nx, tb, v)) (hs : px_st (15, a, b, cc, nx, tb, v) pl st I J R S n q = some (pc', pl', st', I', J', R', S', n', q')) (hroom : n' ≤ n0 + Rm.cells ∧ q' ≤ q0 + Rm.slots) (hfr : 1 ≤ Rm.frames ∧ 100 ≤ Rm.locals) (hg : px_Go E p l e Rm s mi args below meth c Q n0 q0 m pc' pl' st' I' J' R' S' n' q') : px_Go E p l e Rm s mi args below meth c Q n0 q0 m pc pl st I J R S n q := by
  intro H locs ls cells slots hc hq hR hL hS
  obtain ⟨hd, hnx, hcc⟩ := hD
  obtain ⟨hm, hx, hb, hr, hlk, hml, hown, hts, hname, hK, hbs⟩ := hA
  simp only [px_st] at hs
  simp only [px_ins] at hd hnx
  simp only [px_cc, Nat.ble_eq] at hcc
  split at hs
  · rename_i x st1
    simp only [Option.some.injEq, Prod.mk.injEq] at hs
    obtain ⟨rfl, rfl, rfl, rfl, rfl, rfl, rfl, rfl, rfl⟩ := hs
    rcases (show b = 0 ∨ b = 1 ∨ b = 2 ∨ b = 3 ∨ b = 4 ∨ b = 5 by omega) with rfl | rfl | rfl | rfl | rfl | rfl
    · simp only [px_cd] at hd hnx
      subst hnx
      refine lv_if_eq (tgt := a) hx hb hd (by omega) (fun h0 => ?_) (fun h0 => ?_)
      · have h := hg H locs ls cells slots hc hq hR hL hS
        rw [show px_c 0 x 0 = true from decide_eq_true h0] at h
        exact h
      · have h := hg H locs ls cells slots hc hq hR hL hS
        rw [show px_c 0 x 0 = false from decide_eq_false h0] at h
        exact h
    · simp only [px_cd] at hd hnx
      subst hnx
      refine lv_if_ne (tgt := a) hx hb hd (by omega) (fun h0 => ?_) (fun h0 => ?_)
      · have h := hg H locs ls cells slots hc hq hR hL hS
        rw [show px_c 1 x 0 = true from decide_eq_true h0] at h
        exact h
      · have h := hg H locs ls cells slots hc hq hR hL hS
        rw [show px_c 1 x 0 = false from decide_eq_false (fun z => z h0)] at h
        exact h
    · simp only [px_cd] at hd hnx
      subst hnx
      refine lv_if_lt (tgt := a) hx hb hd (by omega) (fun h0 => ?_) (fun h0 => ?_)
      · have h := hg H locs ls cells slots hc hq hR hL hS
        rw [show px_c 2 x 0 = true from decide_eq_true h0] at h
        exact h
      · have h := hg H locs ls cells slots hc hq hR hL hS
        rw [show px_c 2 x 0 = false from decide_eq_false h0] at h
        exact h
    · simp only [px_cd] at hd hnx
      subst hnx
      refine lv_if_ge (tgt := a) hx hb hd (by omega) (fun h0 => ?_) (fun h0 => ?_)
      · have h := hg H locs ls cells slots hc hq hR hL hS
        rw [show px_c 3 x 0 = true from decide_eq_true h0] at h
        exact h
      · have h := hg H locs ls cells slots hc hq hR hL hS
        rw [show px_c 3 x 0 = false from decide_eq_false h0] at h
        exact h
    · simp only [px_cd] at hd hnx
      subst hnx
      refine lv_if_gt (tgt := a) hx hb hd (by omega) (fun h0 => ?_) (fun h0 => ?_)
      · have h := hg H locs ls cells slots hc hq hR hL hS
        rw [show px_c 4 x 0 = true from decide_eq_true h0] at h
        exact h
      · have h := hg H locs ls cells slots hc hq hR hL hS
        rw [show px_c 4 x 0 = false from decide_eq_false h0] at h
        exact h
    · simp only [px_cd] at hd hnx
      subst hnx
      refine lv_if_le (tgt := a) hx hb hd (by omega) (fun h0 => ?_) (fun h0 => ?_)
      · have h := hg H locs ls cells slots hc hq hR hL hS
        rw [show px_c 5 x 0 = true from decide_eq_true h0] at h
        exact h
      · have h := hg H locs ls cells slots hc hq hR hL hS
        rw [show px_c 5 x 0 = false from decide_eq_false h0] at h
        exact h
  · cases hs
theorem px_s16 (hA : px_At E p s mi args meth c n0 m) (hD : px_D m pc (16, a, b, cc, nx, tb, v)) (hs : px_st (16, a, b, cc, nx, tb, v) pl st I J R S n q = some (pc', pl', st', I', J', R', S', n', q')) (hroom : n' ≤ n0 + Rm.cells ∧ q' ≤ q0 + Rm.slots) (hfr : 1 ≤ Rm.frames ∧ 100 ≤ Rm.locals) (hg : px_Go E p l e Rm s mi args below meth c Q n0 q0 m pc' pl' st' I' J' R' S' n' q') : px_Go E p l e Rm s mi args below meth c Q n0 q0 m pc pl st I J R S n q := by
  intro H locs ls cells slots hc hq hR hL hS
  obtain ⟨hd, hnx, hcc⟩ := hD
  obtain ⟨hm, hx, hb, hr, hlk, hml, hown, hts, hname, hK, hbs⟩ := hA
  simp only [px_st] at hs
  simp only [px_ins] at hd hnx
  simp only [px_cc, Nat.ble_eq] at hcc
  split at hs
  · rename_i y x st1
    simp only [Option.some.injEq, Prod.mk.injEq] at hs
    obtain ⟨rfl, rfl, rfl, rfl, rfl, rfl, rfl, rfl, rfl⟩ := hs
    rcases (show b = 0 ∨ b = 1 ∨ b = 2 ∨ b = 3 ∨ b = 4 ∨ b = 5 by omega) with rfl | rfl | rfl | rfl | rfl | rfl
    · simp only [px_cd] at hd hnx
      subst hnx
      refine lv_icmp_eq (tgt := a) hx hb hd (by omega) (fun h0 => ?_) (fun h0 => ?_)
      · have h := hg H locs ls cells slots hc hq hR hL hS
        rw [show px_c 0 x y = true from decide_eq_true h0] at h
        exact h
      · have h := hg H locs ls cells slots hc hq hR hL hS
        rw [show px_c 0 x y = false from decide_eq_false h0] at h
        exact h
    · simp only [px_cd] at hd hnx
      subst hnx
      refine lv_icmp_ne (tgt := a) hx hb hd (by omega) (fun h0 => ?_) (fun h0 => ?_)
      · have h := hg H locs ls cells slots hc hq hR hL hS
        rw [show px_c 1 x y = true from decide_eq_true h0] at h
        exact h
      · have h := hg H locs ls cells slots hc hq hR hL hS
        rw [show px_c 1 x y = false from decide_eq_false (fun z => z h0)] at h
        exact h
    · simp only [px_cd] at hd hnx
      subst hnx
      refine lv_icmp_lt (tgt := a) hx hb hd (by omega) (fun h0 => ?_) (fun h0 => ?_)
      · have h := hg H locs ls cells slots hc hq hR hL hS
        rw [show px_c 2 x y = true from decide_eq_true h0] at h
        exact h
      · have h := hg H locs ls cells slots hc hq hR hL hS
        rw [show px_c 2 x y = false from decide_eq_false h0] at h
        exact h
    · simp only [px_cd] at hd hnx
      subst hnx
      refine lv_icmp_ge (tgt := a) hx hb hd (by omega) (fun h0 => ?_) (fun h0 => ?_)
      · have h := hg H locs ls cells slots hc hq hR hL hS
        rw [show px_c 3 x y = true from decide_eq_true h0] at h
        exact h
      · have h := hg H locs ls cells slots hc hq hR hL hS
        rw [show px_c 3 x y = false from decide_eq_false h0] at h
        exact h
    · simp only [px_cd] at hd hnx
      subst hnx
      refine lv_icmp_gt (tgt := a) hx hb hd (by omega) (fun h0 => ?_) (fun h0 => ?_)
      · have h := hg H locs ls cells slots hc hq hR hL hS
        rw [show px_c 4 x y = true from decide_eq_true h0] at h
        exact h
      · have h := hg H locs ls cells slots hc hq hR hL hS
        rw [show px_c 4 x y = false from decide_eq_false h0] at h
        exact h
    · simp only [px_cd] at hd hnx
      subst hnx
      refine lv_icmp_le (tgt := a) hx hb hd (by omega) (fun h0 => ?_) (fun h0 => ?_)
      · have h := hg H locs ls cells slots hc hq hR hL hS
        rw [show px_c 5 x y = true from decide_eq_true h0] at h
        exact h
      · have h := hg H locs ls cells slots hc hq hR hL hS
        rw [show px_c 5 x y = false from decide_eq_false h0] at h
        exact h
  · cases hs
theorem px_s17 (hA : px_At E p s mi args meth c n0 m) (hD : px_D m pc (17, a, b, cc, nx, tb, v)) (hs : px_st (17, a, b, cc, nx, tb, v) pl st I J R S n q = some (pc', pl', st', I', J', R', S', n', q')) (hroom : n' ≤ n0 + Rm.cells ∧ q' ≤ q0 + Rm.slots) (hfr : 1 ≤ Rm.frames ∧ 100 ≤ Rm.locals) (hg : px_Go E p l e Rm s mi args below meth c Q n0 q0 m pc' pl' st' I' J' R' S' n' q') : px_Go E p l e Rm s mi args below meth c Q n0 q0 m pc pl st I J R S n q := by
  intro H locs ls cells slots hc hq hR hL hS
  obtain ⟨hd, hnx, hcc⟩ := hD
  obtain ⟨hm, hx, hb, hr, hlk, hml, hown, hts, hname, hK, hbs⟩ := hA
  simp only [px_st] at hs
  simp only [px_ins] at hd hnx
  subst hnx
  split at hs
  · simp only [Option.some.injEq, Prod.mk.injEq] at hs
    obtain ⟨rfl, rfl, rfl, rfl, rfl, rfl, rfl, rfl, rfl⟩ := hs
    exact lv_ifnull hx hb hd (hg H locs ls cells slots hc hq hR hL hS)
  · simp only [Option.some.injEq, Prod.mk.injEq] at hs
    obtain ⟨rfl, rfl, rfl, rfl, rfl, rfl, rfl, rfl, rfl⟩ := hs
    exact lv_ifnullN (tgt := a) hx hb hd (by omega) (hg H locs ls cells slots hc hq hR hL hS)
  · cases hs
theorem px_s18 (hA : px_At E p s mi args meth c n0 m) (hD : px_D m pc (18, a, b, cc, nx, tb, v)) (hs : px_st (18, a, b, cc, nx, tb, v) pl st I J R S n q = some (pc', pl', st', I', J', R', S', n', q')) (hroom : n' ≤ n0 + Rm.cells ∧ q' ≤ q0 + Rm.slots) (hfr : 1 ≤ Rm.frames ∧ 100 ≤ Rm.locals) (hg : px_Go E p l e Rm s mi args below meth c Q n0 q0 m pc' pl' st' I' J' R' S' n' q') : px_Go E p l e Rm s mi args below meth c Q n0 q0 m pc pl st I J R S n q := by
  intro H locs ls cells slots hc hq hR hL hS
  obtain ⟨hd, hnx, hcc⟩ := hD
  obtain ⟨hm, hx, hb, hr, hlk, hml, hown, hts, hname, hK, hbs⟩ := hA
  simp only [px_st] at hs
  simp only [px_ins] at hd hnx
  subst hnx
  split at hs
  · simp only [Option.some.injEq, Prod.mk.injEq] at hs
    obtain ⟨rfl, rfl, rfl, rfl, rfl, rfl, rfl, rfl, rfl⟩ := hs
    exact lv_ifnonnull (tgt := a) hx hb hd (by omega) (hg H locs ls cells slots hc hq hR hL hS)
  · simp only [Option.some.injEq, Prod.mk.injEq] at hs
    obtain ⟨rfl, rfl, rfl, rfl, rfl, rfl, rfl, rfl, rfl⟩ := hs
    exact lv_ifnonnullN hx hb hd (hg H locs ls cells slots hc hq hR hL hS)
  · cases hs
theorem px_s19 (hA : px_At E p s mi args meth c n0 m) (hD : px_D m pc (19, a, b, cc, nx, tb, v)) (hs : px_st (19, a, b, cc, nx, tb, v) pl st I J R S n q = some (pc', pl', st', I', J', R', S', n', q')) (hroom : n' ≤ n0 + Rm.cells ∧ q' ≤ q0 + Rm.slots) (hfr : 1 ≤ Rm.frames ∧ 100 ≤ Rm.locals) (hg : px_Go E p l e Rm s mi args below meth c Q n0 q0 m pc' pl' st' I' J' R' S' n' q') : px_Go E p l e Rm s mi args below meth c Q n0 q0 m pc pl st I J R S n q := by
  intro H locs ls cells slots hc hq hR hL hS
  obtain ⟨hd, hnx, hcc⟩ := hD
  obtain ⟨hm, hx, hb, hr, hlk, hml, hown, hts, hname, hK, hbs⟩ := hA
  simp only [px_st] at hs
  simp only [px_ins] at hd hnx
  simp only [Option.some.injEq, Prod.mk.injEq] at hs
  obtain ⟨rfl, rfl, rfl, rfl, rfl, rfl, rfl, rfl, rfl⟩ := hs
  exact lv_goto (tgt := a) hx hb hd (by omega) (hg H locs ls cells slots hc hq hR hL hS)
theorem px_s20 (hA : px_At E p s mi args meth c n0 m) (hD : px_D m pc (20, a, b, cc, nx, tb, v)) (hs : px_st (20, a, b, cc, nx, tb, v) pl st I J R S n q = some (pc', pl', st', I', J', R', S', n', q')) (hroom : n' ≤ n0 + Rm.cells ∧ q' ≤ q0 + Rm.slots) (hfr : 1 ≤ Rm.frames ∧ 100 ≤ Rm.locals) (hg : px_Go E p l e Rm s mi args below meth c Q n0 q0 m pc' pl' st' I' J' R' S' n' q') : px_Go E p l e Rm s mi args below meth c Q n0 q0 m pc pl st I J R S n q := by
  intro H locs ls cells slots hc hq hR hL hS
  obtain ⟨hd, hnx, hcc⟩ := hD
  obtain ⟨hm, hx, hb, hr, hlk, hml, hown, hts, hname, hK, hbs⟩ := hA
  simp only [px_st] at hs
  simp only [px_ins] at hd hnx
  split at hs
  · rename_i x st1 lo
    simp only [Option.some.injEq, Prod.mk.injEq] at hs
    obtain ⟨rfl, rfl, rfl, rfl, rfl, rfl, rfl, rfl, rfl⟩ := hs
    simp only [px_cc, decide_eq_true_eq] at hcc
    simp only [px_vi] at hd hnx
    have h := hg H locs ls cells slots hc hq hR hL hS
    by_cases h1 : x < lo
    · refine lv_tableOut (tgt := a) hx hb hd (Or.inl (Int32.lt_iff_toInt_lt.mp h1)) (by omega) ?_
      rw [show px_sw tb lo x a = a by unfold px_sw; rw [if_pos h1]] at h
      exact h
    · have h2 : ¬ x.toInt < lo.toInt := fun z => h1 (Int32.lt_iff_toInt_lt.mpr z)
      cases ht : tb[(x.toInt - lo.toInt).toNat]? with
      | none =>
        have hlen : tb.length ≤ (x.toInt - lo.toInt).toNat := List.getElem?_eq_none_iff.mp ht
        refine lv_tableOut (tgt := a) hx hb hd (Or.inr (by omega)) (by omega) ?_
        rw [show px_sw tb lo x a = a by unfold px_sw; rw [if_neg h1, ht]] at h
        exact h
      | some q1 =>
        have hlen : (x.toInt - lo.toInt).toNat < tb.length := (List.getElem?_eq_some_iff.mp ht).1
        refine lv_tableIn (off := (q1.2 : Int) - (pc : Int)) (tgt := q1.2) hx hb hd h2 (by omega) ?_ (by omega) ?_
        · rw [List.getElem?_toArray, List.getElem?_map, ht]
          rfl
        · rw [show px_sw tb lo x a = q1.2 by unfold px_sw; rw [if_neg h1, ht]] at h
          exact h
  · cases hs
theorem px_s25 (hA : px_At E p s mi args meth c n0 m) (hD : px_D m pc (25, a, b, cc, nx, tb, v)) (hs : px_st (25, a, b, cc, nx, tb, v) pl st I J R S n q = some (pc', pl', st', I', J', R', S', n', q')) (hroom : n' ≤ n0 + Rm.cells ∧ q' ≤ q0 + Rm.slots) (hfr : 1 ≤ Rm.frames ∧ 100 ≤ Rm.locals) (hg : px_Go E p l e Rm s mi args below meth c Q n0 q0 m pc' pl' st' I' J' R' S' n' q') : px_Go E p l e Rm s mi args below meth c Q n0 q0 m pc pl st I J R S n q := by
  intro H locs ls cells slots hc hq hR hL hS
  obtain ⟨hd, hnx, hcc⟩ := hD
  obtain ⟨hm, hx, hb, hr, hlk, hml, hown, hts, hname, hK, hbs⟩ := hA
  simp only [px_st] at hs
  simp only [px_ins] at hd hnx
  subst hnx
  split at hs
  · simp only [Option.some.injEq, Prod.mk.injEq] at hs
    obtain ⟨rfl, rfl, rfl, rfl, rfl, rfl, rfl, rfl, rfl⟩ := hs
    exact lv_dup hx hb hd rfl (hg H locs ls cells slots hc hq hR hL hS)
  · simp only [Option.some.injEq, Prod.mk.injEq] at hs
    obtain ⟨rfl, rfl, rfl, rfl, rfl, rfl, rfl, rfl, rfl⟩ := hs
    exact lv_dup hx hb hd rfl (hg H locs ls cells slots hc hq hR hL hS)
  · cases hs
theorem px_s26 (hA : px_At E p s mi args meth c n0 m) (hD : px_D m pc (26, a, b, cc, nx, tb, v)) (hs : px_st (26, a, b, cc, nx, tb, v) pl st I J R S n q = some (pc', pl', st', I', J', R', S', n', q')) (hroom : n' ≤ n0 + Rm.cells ∧ q' ≤ q0 + Rm.slots) (hfr : 1 ≤ Rm.frames ∧ 100 ≤ Rm.locals) (hg : px_Go E p l e Rm s mi args below meth c Q n0 q0 m pc' pl' st' I' J' R' S' n' q') : px_Go E p l e Rm s mi args below meth c Q n0 q0 m pc pl st I J R S n q := by
  intro H locs ls cells slots hc hq hR hL hS
  obtain ⟨hd, hnx, hcc⟩ := hD
  obtain ⟨hm, hx, hb, hr, hlk, hml, hown, hts, hname, hK, hbs⟩ := hA
  simp only [px_st] at hs
  simp only [px_ins] at hd hnx
  subst hnx
  split at hs
  · simp only [Option.some.injEq, Prod.mk.injEq] at hs
    obtain ⟨rfl, rfl, rfl, rfl, rfl, rfl, rfl, rfl, rfl⟩ := hs
    exact lv_pop hx hb hd rfl (hg H locs ls cells slots hc hq hR hL hS)
  · cases hs
theorem px_s27 (hA : px_At E p s mi args meth c n0 m) (hD : px_D m pc (27, a, b, cc, nx, tb, v)) (hs : px_st (27, a, b, cc, nx, tb, v) pl st I J R S n q = some (pc', pl', st', I', J', R', S', n', q')) (hroom : n' ≤ n0 + Rm.cells ∧ q' ≤ q0 + Rm.slots) (hfr : 1 ≤ Rm.frames ∧ 100 ≤ Rm.locals) (hg : px_Go E p l e Rm s mi args below meth c Q n0 q0 m pc' pl' st' I' J' R' S' n' q') : px_Go E p l e Rm s mi args below meth c Q n0 q0 m pc pl st I J R S n q := by
  intro H locs ls cells slots hc hq hR hL hS
  obtain ⟨hd, hnx, hcc⟩ := hD
  obtain ⟨hm, hx, hb, hr, hlk, hml, hown, hts, hname, hK, hbs⟩ := hA
  simp only [px_st] at hs
  simp only [px_ins] at hd hnx
  subst hnx
  split at hs
  · simp only [Option.some.injEq, Prod.mk.injEq] at hs
    obtain ⟨rfl, rfl, rfl, rfl, rfl, rfl, rfl, rfl, rfl⟩ := hs
    exact lv_dup2_11 hx hb hd rfl rfl (hg H locs ls cells slots hc hq hR hL hS)
  · cases hs
end PXS
