/-! one instruction: constants, fields, arrays, new objects -/
section PXT
variable {E : px_E} {p : Program} {l : Launch} {e : Env} {Rm : Room} {s : State} {mi : MethodId} {args : Array Value} {below : List Frame} {meth : Method} {c : Code} {Q : State → Prop} {n0 q0 m pc : Nat} {pl pl' : px_L} {st st' : List Value} {I I' : px_HI} {J J' : px_HJ} {R R' : px_HR} {S S' : px_HS} {n n' q q' pc' a b cc nx : Nat} {tb : List (Nat × Nat)} {v : Value}
theorem px_w1 {ws : List Cond} {ps : List Nat} (hts : ∀ w ∈ px_B, w.before args s = true) (h : px_has ps ws = true) : ∀ w ∈ ws, w.before args s = true := fun w hw => hts w (px_has.mem h w hw)
theorem px_s6 (hA : px_At E p s mi args meth c n0 m) (hD : px_D m pc (6, a, b, cc, nx, tb, v)) (hs : px_st (6, a, b, cc, nx, tb, v) pl st I J R S n q = some (pc', pl', st', I', J', R', S', n', q')) (hroom : n' ≤ n0 + Rm.cells ∧ q' ≤ q0 + Rm.slots) (hfr : 1 ≤ Rm.frames ∧ 100 ≤ Rm.locals) (hg : px_Go E p l e Rm s mi args below meth c Q n0 q0 m pc' pl' st' I' J' R' S' n' q') : px_Go E p l e Rm s mi args below meth c Q n0 q0 m pc pl st I J R S n q := by
  intro H locs ls cells slots hc hq hR hL hS
  obtain ⟨hd, hnx, hcc⟩ := hD
  obtain ⟨hm, hx, hb, hr, hlk, hml, hown, hts, hname, hK, hbs⟩ := hA
  simp only [px_st] at hs
  simp only [px_ins] at hd hnx
  simp only [px_cc] at hcc
  split at hcc
  · rw [if_neg (by decide)] at hs
    simp only [Option.some.injEq, Prod.mk.injEq] at hs
    obtain ⟨rfl, rfl, rfl, rfl, rfl, rfl, rfl, rfl, rfl⟩ := hs
    subst hnx
    rename_i x
    exact lv_iconst hx hb hd (show Int32.ofInt x.toInt = x from Int32.ofInt_toInt x) (hg H locs ls cells slots hc hq hR hL hS)
  · rw [if_neg (by decide)] at hs
    simp only [Option.some.injEq, Prod.mk.injEq] at hs
    obtain ⟨rfl, rfl, rfl, rfl, rfl, rfl, rfl, rfl, rfl⟩ := hs
    subst hnx
    exact lv_bipush hx hb hd (of_decide_eq_true hcc) (hg H locs ls cells slots hc hq hR hL hS)
  · rw [if_neg (by decide)] at hs
    simp only [Option.some.injEq, Prod.mk.injEq] at hs
    obtain ⟨rfl, rfl, rfl, rfl, rfl, rfl, rfl, rfl, rfl⟩ := hs
    subst hnx
    exact lv_sipush hx hb hd (of_decide_eq_true hcc) (hg H locs ls cells slots hc hq hR hL hS)
  · rw [if_neg (by decide)] at hs
    simp only [Option.some.injEq, Prod.mk.injEq] at hs
    obtain ⟨rfl, rfl, rfl, rfl, rfl, rfl, rfl, rfl, rfl⟩ := hs
    subst hnx
    exact lv_lconst hx hb hd (of_decide_eq_true hcc) (hg H locs ls cells slots hc hq hR hL hS)
  · rw [if_neg (by decide)] at hs
    simp only [Option.some.injEq, Prod.mk.injEq] at hs
    obtain ⟨rfl, rfl, rfl, rfl, rfl, rfl, rfl, rfl, rfl⟩ := hs
    subst hnx
    exact lv_null hx hb hd (hg H locs ls cells slots hc hq hR hL hS)
  · rw [if_neg (by decide)] at hs
    simp only [Option.some.injEq, Prod.mk.injEq] at hs
    obtain ⟨rfl, rfl, rfl, rfl, rfl, rfl, rfl, rfl, rfl⟩ := hs
    subst hnx
    simp only [List.any_eq_true, Bool.and_eq_true, Nat.beq_eq, decide_eq_true_eq] at hcc
    obtain ⟨e1, he, ⟨q1, q2⟩, q3⟩ := hcc
    have hw := px_w1 hts (List.all_eq_true.mp px_leall e1 he) _ List.mem_cons_self
    rw [q1, q2, q3] at hw
    exact lv_ldc hx hb hown hw hd (hg H locs ls cells slots hc hq hR hL hS)
  · rw [if_neg (by decide)] at hs
    simp only [Option.some.injEq, Prod.mk.injEq] at hs
    obtain ⟨rfl, rfl, rfl, rfl, rfl, rfl, rfl, rfl, rfl⟩ := hs
    subst hnx
    simp only [List.any_eq_true, Bool.and_eq_true, Nat.beq_eq, decide_eq_true_eq] at hcc
    obtain ⟨e1, he, ⟨q1, q2⟩, q3⟩ := hcc
    have hw := px_w1 hts (List.all_eq_true.mp px_leall e1 he) _ List.mem_cons_self
    rw [q1, q2, q3] at hw
    exact lv_ldcw hx hb hown hw hd (hg H locs ls cells slots hc hq hR hL hS)
  · rw [if_neg (by decide)] at hs
    simp only [Option.some.injEq, Prod.mk.injEq] at hs
    obtain ⟨rfl, rfl, rfl, rfl, rfl, rfl, rfl, rfl, rfl⟩ := hs
    subst hnx
    simp only [List.any_eq_true, Bool.and_eq_true, Nat.beq_eq, decide_eq_true_eq] at hcc
    obtain ⟨e1, he, ⟨q1, q2⟩, q3⟩ := hcc
    have hw := px_w1 hts (List.all_eq_true.mp px_l2all e1 he) _ List.mem_cons_self
    rw [q1, q2, q3] at hw
    exact lv_ldc2 hx hb hown hw hd (hg H locs ls cells slots hc hq hR hL hS)
  · rw [if_neg (by decide)] at hs
    simp only [Option.some.injEq, Prod.mk.injEq] at hs
    obtain ⟨rfl, rfl, rfl, rfl, rfl, rfl, rfl, rfl, rfl⟩ := hs
    subst hnx
    rename_i x
    simp only [Bool.and_eq_true, Nat.beq_eq] at hcc
    obtain ⟨hcc, rfl⟩ := hcc
    cases he : px_se[a]? with
    | none => rw [he] at hcc; cases hcc
    | some e1 =>
      rw [he] at hcc
      simp only [Bool.and_eq_true, Nat.beq_eq, decide_eq_true_eq] at hcc
      obtain ⟨⟨q1, q2⟩, q3⟩ := hcc
      have hZ := hK.2.2.2.2.2.1 a e1 he
      rw [← q3, q1, q2] at hZ
      have h := hg H locs ls cells slots hc hq hR hL hS
      refine va_ldcS hx hb hown hZ hd ?_
      have e2 : px_rn E (.ref (1000010 + a)) = .ref (E.2.1 (1000010 + a)) := by
        show Value.ref (px_al E (1000010 + a)) = _
        rw [px_al_ge (by omega)]
      rw [List.map_cons, e2] at h
      exact h
  · rw [if_neg (by decide)] at hs
    simp only [Option.some.injEq, Prod.mk.injEq] at hs
    obtain ⟨rfl, rfl, rfl, rfl, rfl, rfl, rfl, rfl, rfl⟩ := hs
    subst hnx
    simp only [List.any_eq_true, Bool.and_eq_true, Nat.beq_eq, decide_eq_true_eq] at hcc
    obtain ⟨⟨rfl, rfl⟩, e1, he, ⟨q1, q2⟩, q3⟩ := hcc
    have hw := px_w1 hts (List.all_eq_true.mp px_geall e1 he) _ List.mem_cons_self
    rw [q1, q2, q3] at hw
    exact va_gets hx hb hK.2.2.2.2.2.2.1.1 hS hown hw (fun x h => h) hd (hg H locs ls cells slots hc hq hR hL hS)
  · rw [if_neg (by decide)] at hs
    simp only [Option.some.injEq, Prod.mk.injEq] at hs
    obtain ⟨rfl, rfl, rfl, rfl, rfl, rfl, rfl, rfl, rfl⟩ := hs
    subst hnx
    simp only [List.any_eq_true, Bool.and_eq_true, Nat.beq_eq, decide_eq_true_eq] at hcc
    obtain ⟨⟨rfl, rfl⟩, e1, he, ⟨q1, q2⟩, q3⟩ := hcc
    have hw := px_w1 hts (List.all_eq_true.mp px_geall e1 he) _ List.mem_cons_self
    rw [q1, q2, q3] at hw
    have h := hg H locs ls cells slots hc hq hR hL hS
    have e2 : px_rn E (.ref 1000001) = .ref (E.2.1 1000001) := by
      show Value.ref (px_al E 1000001) = _
      rw [px_al_ge (by omega)]
    rw [List.map_cons, e2] at h
    exact va_gets hx hb hK.2.2.2.2.2.2.1.2.1 hS hown hw (fun x h => h) hd h
  · rw [if_pos rfl] at hs
    simp only [Option.some.injEq, Prod.mk.injEq] at hs
    obtain ⟨rfl, rfl, rfl, rfl, rfl, rfl, rfl, rfl, rfl⟩ := hs
    subst hnx
    simp only [List.any_eq_true, Bool.and_eq_true, Nat.beq_eq, decide_eq_true_eq] at hcc
    obtain ⟨rfl, e1, he, ⟨q1, q2⟩, q3⟩ := hcc
    have hw := px_w1 hts (List.all_eq_true.mp px_geall e1 he) _ List.mem_cons_self
    rw [q1, q2, q3] at hw
    have h := hg H locs ls cells slots hc hq hR hL hS
    have e2 : R 1000002 = E.2.2.2.2.2.1 1000002 := (hR.2.2.2.2 1000002 (by omega)).2.2
    rw [List.map_cons, e2] at h
    exact va_gets hx hb hK.2.2.2.2.2.2.1.2.2 hS hown hw (fun x h => h) hd h
  · cases hcc
theorem px_ce_o {o kd : Nat} (h : (S o).1 = kd) (h1 : 10 ≤ kd) (h2 : kd ≤ 22) : px_ce E I J R S o = .inr (kd - 10, (List.range (px_N (kd - 10))).map (px_fv E I J R o (kd - 10))) := by
  unfold px_ce
  rw [h, if_neg (by omega), if_neg (by omega), if_neg (by omega), if_neg (by omega)]
theorem px_rwo {kd : Nat} (h1 : 10 ≤ kd) (h2 : kd ≤ 22) : px_rw kd = true := by
  unfold px_rw
  simp [Nat.ble_eq.mpr h1, Nat.ble_eq.mpr h2]
theorem px_vrf (x : Option Nat) : va_rf (x.map (px_al E)) = px_rn E (px_rv x) := by cases x <;> rfl
theorem px_rget {op o : Nat} {H : Heap} {locs : List Loc} {ls : Array Slot} {cells slots : Nat} {rest : List Value} (hA : px_At E p s mi args meth c n0 m) (hfq : px_fq m op a b cc (S o).1 = true) (hR : px_Rel E I J R S n H) (hd : decode (px_bc m) pc = .ok (.getfield cc, 3))
    (h : W p l e Rm s mi args below meth c H locs cells slots Q (F0 mi (pc + 3) ls (px_fv E I J R o ((S o).1 - 10) a :: rest))) : W p l e Rm s mi args below meth c H locs cells slots Q (F0 mi pc ls (.ref (px_al E o) :: rest)) := by
  obtain ⟨hm, hx, hb, hr, hlk, hml, hown, hts, hname, hK, hbs⟩ := hA
  obtain ⟨r, ref, hr, k1, k2, k3, k4, k5, k6, -⟩ := px_fqs hfq
  have ho := px_lt hR hK (px_rwo k1 k2)
  have he := px_wsg (E := E) (I := I) (J := J) (R := R) (S := S) ho
  rw [px_ce_o rfl k1 k2] at he
  rw [px_al_lt hR ho]
  have hN : px_N ((S o).1 - 10) = r.2.2 := by unfold px_N; rw [hr]
  refine va_get hx hb hts (px_clok hr).1 hown hK.1 hR.1 o he hr a k3 (hts _ k4) ?_ (v := px_fv E I J R o ((S o).1 - 10) a) ?_ hd h
  · rcases k5 with k5 | k5
    · rw [k5]
      exact fun x hx => hx
    · exact u_same (hts _ k5)
  · rw [List.getElem?_map, List.getElem?_range (by rw [hN]; exact k3)]
    rfl

theorem px_s28 (hA : px_At E p s mi args meth c n0 m) (hD : px_D m pc (28, a, b, cc, nx, tb, v)) (hs : px_st (28, a, b, cc, nx, tb, v) pl st I J R S n q = some (pc', pl', st', I', J', R', S', n', q')) (hroom : n' ≤ n0 + Rm.cells ∧ q' ≤ q0 + Rm.slots) (hfr : 1 ≤ Rm.frames ∧ 100 ≤ Rm.locals) (hg : px_Go E p l e Rm s mi args below meth c Q n0 q0 m pc' pl' st' I' J' R' S' n' q') : px_Go E p l e Rm s mi args below meth c Q n0 q0 m pc pl st I J R S n q := by
  intro H locs ls cells slots hc hq hR hL hS
  obtain ⟨hd, hnx, hcc⟩ := hD
  obtain ⟨hm, hx, hb, hr, hlk, hml, hown, hts, hname, hK, hbs⟩ := hA
  simp only [px_st] at hs
  simp only [px_ins] at hd hnx
  split at hs
  · rename_i o st1
    split at hs
    · rename_i hlk2
      simp only [Option.some.injEq, Prod.mk.injEq] at hs
      obtain ⟨rfl, rfl, rfl, rfl, rfl, rfl, rfl, rfl, rfl⟩ := hs
      subst hnx
      obtain ⟨e1, he1, hek⟩ := px_lk hlk2
      unfold px_cc at hcc
      dsimp only at hcc
      have hcc := List.all_eq_true.mp hcc e1 he1
      have h := hg H locs ls cells slots hc hq hR hL hS
      by_cases h150 : e1.1 = 150
      · rw [show Nat.beq e1.1 150 = true from Nat.beq_eq.mpr h150] at hcc
        simp only [cond_true, List.any_eq_true, Bool.and_eq_true, Nat.beq_eq] at hcc
        obtain ⟨rfl, f1, hf1, ⟨q1, q2⟩, q3⟩ := hcc
        have hw := px_w1 hts (List.all_eq_true.mp px_fsall f1 hf1) _ List.mem_cons_self
        rw [q1, q2, q3] at hw
        have hk : (S o).1 = 150 := hek.symm.trans h150
        obtain ⟨g1, g2, g3, g4⟩ := px_far hR (o := o) (by rw [hk]; rfl) (by rw [hk]; decide)
        have hst := (hK.2.2.2.2.2.2.2.2.2.1 o (by rw [← g2]; exact hk)).2.1
        rw [List.map_cons] at h ⊢
        rw [show px_rn E (.ref o) = .ref (E.2.1 o) by show Value.ref (px_al E o) = _; rw [px_al_ge g1]]
        refine vk_getf hx hb hst hS hown hw (fun x h => h) hd ?_
        rw [g3] at h
        exact h
      · rw [show Nat.beq e1.1 150 = false from Bool.eq_false_iff.mpr (fun z => h150 (Nat.beq_eq.mp z))] at hcc
        rw [cond_false] at hcc
        rw [hek] at hcc
        refine px_rget ⟨hm, hx, hb, hr, hlk, hml, hown, hts, hname, hK, hbs⟩ hcc hR hd ?_
        obtain ⟨r1, ref, -, -, -, -, -, -, k6, -⟩ := px_fqs hcc
        have e2 : px_fv E I J R o ((S o).1 - 10) a = px_rn E (.int (I o a)) := by
          unfold px_fv
          rw [k6]
          rfl
        rw [e2]
        exact h
    · cases hs
  · cases hs
theorem px_s29 (hA : px_At E p s mi args meth c n0 m) (hD : px_D m pc (29, a, b, cc, nx, tb, v)) (hs : px_st (29, a, b, cc, nx, tb, v) pl st I J R S n q = some (pc', pl', st', I', J', R', S', n', q')) (hroom : n' ≤ n0 + Rm.cells ∧ q' ≤ q0 + Rm.slots) (hfr : 1 ≤ Rm.frames ∧ 100 ≤ Rm.locals) (hg : px_Go E p l e Rm s mi args below meth c Q n0 q0 m pc' pl' st' I' J' R' S' n' q') : px_Go E p l e Rm s mi args below meth c Q n0 q0 m pc pl st I J R S n q := by
  intro H locs ls cells slots hc hq hR hL hS
  obtain ⟨hd, hnx, hcc⟩ := hD
  obtain ⟨hm, hx, hb, hr, hlk, hml, hown, hts, hname, hK, hbs⟩ := hA
  simp only [px_st] at hs
  simp only [px_ins] at hd hnx
  split at hs
  · rename_i o st1
    split at hs
    · rename_i hlk2
      simp only [Option.some.injEq, Prod.mk.injEq] at hs
      obtain ⟨rfl, rfl, rfl, rfl, rfl, rfl, rfl, rfl, rfl⟩ := hs
      subst hnx
      obtain ⟨e1, he1, hek⟩ := px_lk hlk2
      unfold px_cc at hcc
      dsimp only at hcc
      have hcc := List.all_eq_true.mp hcc e1 he1
      have h := hg H locs ls cells slots hc hq hR hL hS
      rw [hek] at hcc
      refine px_rget ⟨hm, hx, hb, hr, hlk, hml, hown, hts, hname, hK, hbs⟩ hcc hR hd ?_
      obtain ⟨r1, ref, -, -, -, -, -, -, k6, -⟩ := px_fqs hcc
      have e2 : px_fv E I J R o ((S o).1 - 10) a = px_rn E (.long (J o a)) := by
        unfold px_fv
        rw [k6]
        rfl
      rw [e2]
      exact h
    · cases hs
  · cases hs
theorem px_s30 (hA : px_At E p s mi args meth c n0 m) (hD : px_D m pc (30, a, b, cc, nx, tb, v)) (hs : px_st (30, a, b, cc, nx, tb, v) pl st I J R S n q = some (pc', pl', st', I', J', R', S', n', q')) (hroom : n' ≤ n0 + Rm.cells ∧ q' ≤ q0 + Rm.slots) (hfr : 1 ≤ Rm.frames ∧ 100 ≤ Rm.locals) (hg : px_Go E p l e Rm s mi args below meth c Q n0 q0 m pc' pl' st' I' J' R' S' n' q') : px_Go E p l e Rm s mi args below meth c Q n0 q0 m pc pl st I J R S n q := by
  intro H locs ls cells slots hc hq hR hL hS
  obtain ⟨hd, hnx, hcc⟩ := hD
  obtain ⟨hm, hx, hb, hr, hlk, hml, hown, hts, hname, hK, hbs⟩ := hA
  simp only [px_st] at hs
  simp only [px_ins] at hd hnx
  split at hs
  · rename_i o st1
    split at hs
    · rename_i hlk2
      simp only [Option.some.injEq, Prod.mk.injEq] at hs
      obtain ⟨rfl, rfl, rfl, rfl, rfl, rfl, rfl, rfl, rfl⟩ := hs
      subst hnx
      obtain ⟨e1, he1, hek⟩ := px_lk hlk2
      unfold px_cc at hcc
      dsimp only at hcc
      have hcc := List.all_eq_true.mp hcc e1 he1
      have h := hg H locs ls cells slots hc hq hR hL hS
      by_cases h150 : e1.1 = 150
      · rw [show Nat.beq e1.1 150 = true from Nat.beq_eq.mpr h150] at hcc
        simp only [cond_true, List.any_eq_true, Bool.and_eq_true, Nat.beq_eq] at hcc
        obtain ⟨rfl, f1, hf1, ⟨q1, q2⟩, q3⟩ := hcc
        have hw := px_w1 hts (List.all_eq_true.mp px_fsall f1 hf1) _ List.mem_cons_self
        rw [q1, q2, q3] at hw
        have hk : (S o).1 = 150 := hek.symm.trans h150
        obtain ⟨g1, g2, g3, g4⟩ := px_far hR (o := o) (by rw [hk]; rfl) (by rw [hk]; decide)
        have hst := (hK.2.2.2.2.2.2.2.2.2.1 o (by rw [← g2]; exact hk)).2.2
        rw [List.map_cons] at h ⊢
        rw [show px_rn E (.ref o) = .ref (E.2.1 o) by show Value.ref (px_al E o) = _; rw [px_al_ge g1]]
        refine vk_getf hx hb hst hS hown hw (fun x h => h) hd ?_
        rw [g4] at h
        exact h
      · rw [show Nat.beq e1.1 150 = false from Bool.eq_false_iff.mpr (fun z => h150 (Nat.beq_eq.mp z))] at hcc
        rw [cond_false] at hcc
        rw [hek] at hcc
        refine px_rget ⟨hm, hx, hb, hr, hlk, hml, hown, hts, hname, hK, hbs⟩ hcc hR hd ?_
        obtain ⟨r1, ref, -, -, -, -, -, -, k6, -⟩ := px_fqs hcc
        have e2 : px_fv E I J R o ((S o).1 - 10) a = px_rn E (px_rv (R o a)) := by
          unfold px_fv
          rw [k6]
          exact px_vrf _
        rw [e2]
        exact h
    · cases hs
  · cases hs
theorem px_rput {op o : Nat} {H : Heap} {locs : List Loc} {ls : Array Slot} {cells slots : Nat} {rest : List Value} {v1 : Value} (hA : px_At E p s mi args meth c n0 m) (hop : 30 < op) (hfq : px_fq m op a b cc (S o).1 = true) (hR : px_Rel E I J R S n H) (hS : va_S (px_A E) s.heap H locs) (hd : decode (px_bc m) pc = .ok (.putfield cc, 3))
    (hn : narrow (px_ty ((S o).1 - 10) a) v1 = v1) (hf : fits (px_ty ((S o).1 - 10) a) v1 = true) (hoth : ∀ b, b ≠ o → I' b = I b ∧ J' b = J b ∧ R' b = R b) (hv : ∀ j, px_fv E I' J' R' o ((S o).1 - 10) j = if j = a then v1 else px_fv E I J R o ((S o).1 - 10) j)
    (h : ∀ (H1 : Heap) (locs1 : List Loc), px_Rel E I' J' R' S n H1 → va_S (px_A E) s.heap H1 locs1 → W p l e Rm s mi args below meth c H1 locs1 cells slots Q (F0 mi (pc + 3) ls rest)) : W p l e Rm s mi args below meth c H locs cells slots Q (F0 mi pc ls (v1 :: .ref (px_al E o) :: rest)) := by
  obtain ⟨hm, hx, hb, hr, hlk, hml, hown, hts, hname, hK, hbs⟩ := hA
  obtain ⟨r, ref, hr, k1, k2, k3, k4, k5, k6, k7⟩ := px_fqs hfq
  have ho := px_lt hR hK (px_rwo k1 k2)
  have he := px_wsg (E := E) (I := I) (J := J) (R := R) (S := S) ho
  rw [px_ce_o rfl k1 k2] at he
  rw [px_al_lt hR ho]
  have hN : px_N ((S o).1 - 10) = r.2.2 := by unfold px_N; rw [hr]
  obtain ⟨c1, c2, c3, c4⟩ := px_clok hr
  have hsame : ∀ x, s.fieldFound? (r.2.1 a).1 (r.2.1 a).2.1 (r.2.1 a).2.2.1 = some x → s.fieldFound? ref (r.2.1 a).2.1 (r.2.1 a).2.2.1 = some x := by
    rcases k5 with k5 | k5
    · rw [k5]
      exact fun x hx => hx
    · exact u_same (hts _ k5)
  have hl : a < ((List.range (px_N ((S o).1 - 10))).map (px_fv E I J R o ((S o).1 - 10))).length := by
    rw [List.length_map, List.length_range, hN]
    exact k3
  have hce : px_ce E I' J' R' S o = .inr ((S o).1 - 10, ((List.range (px_N ((S o).1 - 10))).map (px_fv E I J R o ((S o).1 - 10))).set a v1) := by
    rw [px_ce_o rfl k1 k2]
    congr 2
    refine List.ext_getElem? fun j => ?_
    by_cases hj : j < px_N ((S o).1 - 10)
    · rw [List.getElem?_map, List.getElem?_range hj, Option.map_some, hv j]
      by_cases hja : j = a
      · subst hja
        rw [if_pos rfl, List.getElem?_set_self hl]
      · rw [if_neg hja, List.getElem?_set_ne (Ne.symm hja), List.getElem?_map, List.getElem?_range hj, Option.map_some]
    · rw [List.getElem?_eq_none (by simpa using hj), List.getElem?_eq_none (by simpa using hj)]
  rcases k7 with k7 | ⟨-, k7 | ⟨k7, k8⟩⟩
  · omega
  · exact va_put hx hb hts c1 (px_ty ((S o).1 - 10)) c2 c3 hown hK.1 hR.1 (px_wsD _ _ _ _ _ _) hS o he hr a k3 (hts _ k4) hsame k7 (c2 a k3) hn hf hl hd (fun H1 locs1 hP hD hS1 => h H1 locs1 (hR.upd ho hP hce hoth) hS1)
  · by_cases hfin : (r.2.1 a).2.2.2 = true
    · exact va_putF hx hb hts c1 (px_ty ((S o).1 - 10)) c2 c3 hown hK.1 hR.1 (px_wsD _ _ _ _ _ _) hS o he hr a k3 (hts _ k4) hsame hfin (hname.trans k7) k8 (c2 a k3) hn hf hl hd (fun H1 locs1 hP hD hS1 => h H1 locs1 (hR.upd ho hP hce hoth) hS1)
    · exact va_put hx hb hts c1 (px_ty ((S o).1 - 10)) c2 c3 hown hK.1 hR.1 (px_wsD _ _ _ _ _ _) hS o he hr a k3 (hts _ k4) hsame (Bool.not_eq_true _ ▸ hfin) (c2 a k3) hn hf hl hd (fun H1 locs1 hP hD hS1 => h H1 locs1 (hR.upd ho hP hce hoth) hS1)
theorem px_u_ne {α : Type} {f : Nat → Nat → α} {o k x : Nat} {v : α} (h : x ≠ o) : px_u f o k v x = f x := by
  funext j
  unfold px_u
  rw [show Nat.beq x o = false from Bool.eq_false_iff.mpr (fun z => h (Nat.beq_eq.mp z))]
  rfl
theorem px_u_eq {α : Type} {f : Nat → Nat → α} {o k j : Nat} {v : α} : px_u f o k v o j = if j = k then v else f o j := by
  unfold px_u
  rw [show Nat.beq o o = true from Nat.beq_eq.mpr rfl]
  by_cases h : j = k
  · rw [if_pos h, show Nat.beq j k = true from Nat.beq_eq.mpr h]
    rfl
  · rw [if_neg h, show Nat.beq j k = false from Bool.eq_false_iff.mpr (fun z => h (Nat.beq_eq.mp z))]
    rfl
theorem px_nbi {x : Int32} (h : x = 0 ∨ x = 1) : narrow .boolean (.int x) = .int x ∧ fits .boolean (.int x) = true := by
  rcases h with rfl | rfl <;> exact ⟨rfl, rfl⟩
theorem px_s31 (hA : px_At E p s mi args meth c n0 m) (hD : px_D m pc (31, a, b, cc, nx, tb, v)) (hs : px_st (31, a, b, cc, nx, tb, v) pl st I J R S n q = some (pc', pl', st', I', J', R', S', n', q')) (hroom : n' ≤ n0 + Rm.cells ∧ q' ≤ q0 + Rm.slots) (hfr : 1 ≤ Rm.frames ∧ 100 ≤ Rm.locals) (hg : px_Go E p l e Rm s mi args below meth c Q n0 q0 m pc' pl' st' I' J' R' S' n' q') : px_Go E p l e Rm s mi args below meth c Q n0 q0 m pc pl st I J R S n q := by
  intro H locs ls cells slots hc hq hR hL hS
  obtain ⟨hd, hnx, hcc⟩ := hD
  obtain ⟨hm, hx, hb, hr, hlk, hml, hown, hts, hname, hK, hbs⟩ := hA
  simp only [px_st] at hs
  simp only [px_ins] at hd hnx
  split at hs
  · rename_i x o st1
    split at hs
    · rename_i hlk2
      simp only [Bool.and_eq_true] at hlk2
      simp only [Option.some.injEq, Prod.mk.injEq] at hs
      obtain ⟨rfl, rfl, rfl, rfl, rfl, rfl, rfl, rfl, rfl⟩ := hs
      subst hnx
      obtain ⟨e1, he1, hek⟩ := px_lk hlk2.1
      unfold px_cc at hcc
      dsimp only at hcc
      have hcc := List.all_eq_true.mp hcc e1 he1
      rw [hek] at hcc
      obtain ⟨r1, ref, hr1, k1, k2, k3, k4, k5, k6, k7⟩ := px_fqs hcc
      obtain ⟨-, -, -, c4⟩ := px_clok hr1
      have hnf : narrow (px_ty ((S o).1 - 10) a) (.int x) = .int x ∧ fits (px_ty ((S o).1 - 10) a) (.int x) = true := by
        rcases k7 with k7 | ⟨k7, -⟩
        · omega
        · have c5 := c4 a k3
          have hf2 := hlk2.2
          generalize px_ty ((S o).1 - 10) a = ty at k6 k7 c5
          by_cases hb1 : b = 1
          · subst hb1
            have k8 : ty = .boolean := of_decide_eq_true k7
            subst k8
            exact px_nbi (of_decide_eq_true hf2)
          · rw [show Nat.beq b 1 = false from Bool.eq_false_iff.mpr (fun z => hb1 (Nat.beq_eq.mp z)), cond_false] at k7
            obtain ⟨z1, z2, z3, z4⟩ := of_decide_eq_true k7
            cases ty <;> first | exact absurd rfl z1 | exact absurd rfl z2 | exact absurd rfl z3 | exact absurd rfl z4 | exact absurd rfl c5.1 | exact absurd rfl c5.2 | (cases k6; done) | exact ⟨rfl, rfl⟩
      refine px_rput (I' := px_u I o a x) (J' := J) (R' := R) ⟨hm, hx, hb, hr, hlk, hml, hown, hts, hname, hK, hbs⟩ (by omega) hcc hR hS hd hnf.1 hnf.2 (fun b1 hb1 => ⟨px_u_ne hb1, rfl, rfl⟩) (fun j => ?_) (fun H1 locs1 hR1 hS1 => hg H1 locs1 ls cells slots hc hq hR1 hL hS1)
      unfold px_fv
      by_cases hj : j = a
      · subst hj
        rw [if_pos rfl, k6, px_u_eq, if_pos rfl]
        rfl
      · rw [if_neg hj, px_u_eq, if_neg hj]
    · cases hs
  · cases hs
theorem px_s32 (hA : px_At E p s mi args meth c n0 m) (hD : px_D m pc (32, a, b, cc, nx, tb, v)) (hs : px_st (32, a, b, cc, nx, tb, v) pl st I J R S n q = some (pc', pl', st', I', J', R', S', n', q')) (hroom : n' ≤ n0 + Rm.cells ∧ q' ≤ q0 + Rm.slots) (hfr : 1 ≤ Rm.frames ∧ 100 ≤ Rm.locals) (hg : px_Go E p l e Rm s mi args below meth c Q n0 q0 m pc' pl' st' I' J' R' S' n' q') : px_Go E p l e Rm s mi args below meth c Q n0 q0 m pc pl st I J R S n q := by
  intro H locs ls cells slots hc hq hR hL hS
  obtain ⟨hd, hnx, hcc⟩ := hD
  obtain ⟨hm, hx, hb, hr, hlk, hml, hown, hts, hname, hK, hbs⟩ := hA
  simp only [px_st] at hs
  simp only [px_ins] at hd hnx
  split at hs
  · rename_i x o st1
    split at hs
    · rename_i hlk2
      simp only [Option.some.injEq, Prod.mk.injEq] at hs
      obtain ⟨rfl, rfl, rfl, rfl, rfl, rfl, rfl, rfl, rfl⟩ := hs
      subst hnx
      obtain ⟨e1, he1, hek⟩ := px_lk hlk2
      unfold px_cc at hcc
      dsimp only at hcc
      have hcc := List.all_eq_true.mp hcc e1 he1
      rw [hek] at hcc
      obtain ⟨r1, ref, hr1, k1, k2, k3, k4, k5, k6, k7⟩ := px_fqs hcc
      have hnf : narrow (px_ty ((S o).1 - 10) a) (.long x) = .long x ∧ fits (px_ty ((S o).1 - 10) a) (.long x) = true := by
        generalize px_ty ((S o).1 - 10) a = ty at k6
        cases ty <;> first | (cases k6; done) | exact ⟨rfl, rfl⟩
      refine px_rput (I' := I) (J' := px_u J o a x) (R' := R) ⟨hm, hx, hb, hr, hlk, hml, hown, hts, hname, hK, hbs⟩ (by omega) hcc hR hS hd hnf.1 hnf.2 (fun b1 hb1 => ⟨rfl, px_u_ne hb1, rfl⟩) (fun j => ?_) (fun H1 locs1 hR1 hS1 => hg H1 locs1 ls cells slots hc hq hR1 hL hS1)
      unfold px_fv
      by_cases hj : j = a
      · subst hj
        rw [if_pos rfl, k6, px_u_eq, if_pos rfl]
        rfl
      · rw [if_neg hj, px_u_eq, if_neg hj]
    · cases hs
  · cases hs
theorem px_s33 (hA : px_At E p s mi args meth c n0 m) (hD : px_D m pc (33, a, b, cc, nx, tb, v)) (hs : px_st (33, a, b, cc, nx, tb, v) pl st I J R S n q = some (pc', pl', st', I', J', R', S', n', q')) (hroom : n' ≤ n0 + Rm.cells ∧ q' ≤ q0 + Rm.slots) (hfr : 1 ≤ Rm.frames ∧ 100 ≤ Rm.locals) (hg : px_Go E p l e Rm s mi args below meth c Q n0 q0 m pc' pl' st' I' J' R' S' n' q') : px_Go E p l e Rm s mi args below meth c Q n0 q0 m pc pl st I J R S n q := by
  intro H locs ls cells slots hc hq hR hL hS
  obtain ⟨hd, hnx, hcc⟩ := hD
  obtain ⟨hm, hx, hb, hr, hlk, hml, hown, hts, hname, hK, hbs⟩ := hA
  simp only [px_st] at hs
  simp only [px_ins] at hd hnx
  split at hs
  · rename_i x o st1
    split at hs
    · rename_i hlk2
      simp only [Option.some.injEq, Prod.mk.injEq] at hs
      obtain ⟨rfl, rfl, rfl, rfl, rfl, rfl, rfl, rfl, rfl⟩ := hs
      subst hnx
      obtain ⟨e1, he1, hek⟩ := px_lk hlk2
      unfold px_cc at hcc
      dsimp only at hcc
      have hcc := List.all_eq_true.mp hcc e1 he1
      rw [hek] at hcc
      obtain ⟨r1, ref, hr1, k1, k2, k3, k4, k5, k6, k7⟩ := px_fqs hcc
      have hnf : narrow (px_ty ((S o).1 - 10) a) (.ref (px_al E x)) = .ref (px_al E x) ∧ fits (px_ty ((S o).1 - 10) a) (.ref (px_al E x)) = true := by
        generalize px_ty ((S o).1 - 10) a = ty at k6
        cases ty <;> first | (cases k6; done) | exact ⟨rfl, rfl⟩
      refine px_rput (I' := I) (J' := J) (R' := px_u R o a (some x)) ⟨hm, hx, hb, hr, hlk, hml, hown, hts, hname, hK, hbs⟩ (by omega) hcc hR hS hd hnf.1 hnf.2 (fun b1 hb1 => ⟨rfl, rfl, px_u_ne hb1⟩) (fun j => ?_) (fun H1 locs1 hR1 hS1 => hg H1 locs1 ls cells slots hc hq hR1 hL hS1)
      unfold px_fv
      by_cases hj : j = a
      · subst hj
        rw [if_pos rfl, k6, px_u_eq, if_pos rfl]
        rfl
      · rw [if_neg hj, px_u_eq, if_neg hj]
    · cases hs
  · rename_i  o st1
    split at hs
    · rename_i hlk2
      simp only [Option.some.injEq, Prod.mk.injEq] at hs
      obtain ⟨rfl, rfl, rfl, rfl, rfl, rfl, rfl, rfl, rfl⟩ := hs
      subst hnx
      obtain ⟨e1, he1, hek⟩ := px_lk hlk2
      unfold px_cc at hcc
      dsimp only at hcc
      have hcc := List.all_eq_true.mp hcc e1 he1
      rw [hek] at hcc
      obtain ⟨r1, ref, hr1, k1, k2, k3, k4, k5, k6, k7⟩ := px_fqs hcc
      have hnf : narrow (px_ty ((S o).1 - 10) a) (.null) = .null ∧ fits (px_ty ((S o).1 - 10) a) (.null) = true := by
        generalize px_ty ((S o).1 - 10) a = ty at k6
        cases ty <;> first | (cases k6; done) | exact ⟨rfl, rfl⟩
      refine px_rput (I' := I) (J' := J) (R' := px_u R o a (none)) ⟨hm, hx, hb, hr, hlk, hml, hown, hts, hname, hK, hbs⟩ (by omega) hcc hR hS hd hnf.1 hnf.2 (fun b1 hb1 => ⟨rfl, rfl, px_u_ne hb1⟩) (fun j => ?_) (fun H1 locs1 hR1 hS1 => hg H1 locs1 ls cells slots hc hq hR1 hL hS1)
      unfold px_fv
      by_cases hj : j = a
      · subst hj
        rw [if_pos rfl, k6, px_u_eq, if_pos rfl]
        rfl
      · rw [if_neg hj, px_u_eq, if_neg hj]
    · cases hs
  · cases hs
end PXT
