/-! one instruction: arrays, new objects, library calls -/
theorem px_rwv {k : Nat} (h : px_rw k = true) : (10 ≤ k ∧ k ≤ 22) ∨ k = 100 ∨ k = 101 ∨ k = 102 ∨ k = 104 ∨ k = 105 ∨ k = 106 := by
  unfold px_rw at h
  simp only [Bool.or_eq_true, Bool.and_eq_true, Nat.ble_eq, Nat.beq_eq] at h
  omega
theorem px_z_ne {α : Type} {f : Nat → Nat → α} {o x : Nat} {v : α} (h : x ≠ o) : px_z f o v x = f x := by
  funext j
  unfold px_z
  rw [show Nat.beq x o = false from Bool.eq_false_iff.mpr (fun z => h (Nat.beq_eq.mp z))]
  rfl
theorem px_z_eq {α : Type} {f : Nat → Nat → α} {o j : Nat} {v : α} : px_z f o v o j = v := by
  unfold px_z
  rw [show Nat.beq o o = true from Nat.beq_eq.mpr rfl]
  rfl
theorem px_us_ne {f : px_HS} {o x : Nat} {v : Nat × Nat} (h : x ≠ o) : px_us f o v x = f x := by
  unfold px_us
  rw [show Nat.beq x o = false from Bool.eq_false_iff.mpr (fun z => h (Nat.beq_eq.mp z))]
  rfl
theorem px_us_eq {f : px_HS} {o : Nat} {v : Nat × Nat} : px_us f o v o = v := by
  unfold px_us
  rw [show Nat.beq o o = true from Nat.beq_eq.mpr rfl]
  rfl
theorem px_ce_eq {E : px_E} {I I' : px_HI} {J J' : px_HJ} {R R' : px_HR} {S S' : px_HS} {k : Nat} (q1 : I' k = I k) (q2 : J' k = J k) (q3 : R' k = R k) (q4 : S' k = S k) : px_ce E I' J' R' S' k = px_ce E I J R S k := by
  have q5 : px_fv E I' J' R' k = px_fv E I J R k := by
    funext ci j
    unfold px_fv
    rw [q1, q2, q3]
  unfold px_ce
  rw [q1, q2, q3, q4, q5]
theorem px_Rel.push {E : px_E} {I : px_HI} {J : px_HJ} {R : px_HR} {S : px_HS} {n kd len : Nat} {H H1 : Heap} (hR : px_Rel E I J R S n H) (hn : n < 1000000) (hsz : H.size = E.1 + n) (hold : ∀ q, q < E.1 + n → H1[q]? = H[q]?) (hk : px_rw kd = true)
    (hcell : va_at E.2.2.1 px_cl (E.1 + n, px_ce E (px_z I n 0) (px_z J n 0) (px_z R n none) (px_us S n (kd, len)) n) H1) : px_Rel E (px_z I n 0) (px_z J n 0) (px_z R n none) (px_us S n (kd, len)) (n + 1) H1 := by
  obtain ⟨h1, h2, h3, h4, h5⟩ := hR
  refine ⟨fun k x hx => ?_, hn, fun a ha => ?_, fun a ha1 ha2 => ?_, fun a ha => ?_⟩
  · have hk1 : k < n + 1 := by
      have := (List.getElem?_eq_some_iff.mp hx).1
      simpa [px_ws] using this
    rw [px_wsg hk1] at hx
    cases hx
    by_cases hkn : k = n
    · subst hkn
      exact hcell
    · rw [px_ce_eq (px_z_ne hkn) (px_z_ne hkn) (px_z_ne hkn) (px_us_ne hkn)]
      have hkl : k < n := by omega
      exact (h1 k _ (px_wsg hkl)).kept (hold _ (by show E.1 + k < E.1 + n; omega))
  · by_cases hkn : a = n
    · subst hkn
      rw [px_us_eq]
      exact hk
    · rw [px_us_ne hkn]
      exact h3 a (by omega)
  · rw [px_us_ne (by omega)]
    exact h4 a (by omega) ha2
  · rw [px_us_ne (by omega), px_z_ne (by omega), px_z_ne (by omega)]
    exact h5 a ha
theorem px_dflt {ty : FieldType} (h : ty ≠ .float ∧ ty ≠ .double) : defaultValue ty = match px_ft ty with
  | 0 => .int 0
  | 1 => .long 0
  | _ => .null := by
  cases ty <;> first | exact absurd rfl h.1 | exact absurd rfl h.2 | rfl
theorem px_inv {i : Int32} {n : Nat} (h : px_in i n = true) : vp_in i n := show ¬ (i < 0 ∨ n ≤ i.toNatClampNeg) from of_decide_eq_true h
theorem px_cats (E : px_E) (st : List Value) : ((st.map (px_rn E)).map fun v => v.category).sum = (st.map fun v => v.category).sum := by
  rw [List.map_map]
  congr 1
  refine List.map_congr_left fun v _ => px_rn_cat E v
theorem px_lo8 {E : px_E} {st : List Value} (h : px_lo st = true) : ((st.map (px_rn E)).map fun v => v.category).sum ≤ 8 := by
  rw [px_cats]
  exact Nat.ble_eq.mp h
theorem px_cbi {k : Nat} (h : k < 10000) : k * componentBytes .int ≤ 536870912 ∧ k * componentBytes .long ≤ 536870912 ∧ k * componentBytes .boolean ≤ 536870912 := by
  refine ⟨?_, ?_, ?_⟩ <;> exact Nat.le_trans (Nat.mul_le_mul (Nat.le_of_lt h) (show _ ≤ 8 by decide)) (by decide)
theorem px_acs : (Cond.arrayClass .int) ∈ px_B ∧ (Cond.arrayClass .long) ∈ px_B ∧ (Cond.arrayClass .boolean) ∈ px_B := by
  refine ⟨List.mem_filter.mpr ⟨?_, rfl⟩, List.mem_filter.mpr ⟨?_, rfl⟩, List.mem_filter.mpr ⟨?_, rfl⟩⟩ <;> decide +kernel
theorem px_clname : (List.range 13).all (fun ci => decide ((px_cl[ci]?).map (·.1) = some (px_cn ci))) = true := by decide +kernel
theorem px_cln {ci : Nat} {r : vw_C} (h : px_cl[ci]? = some r) : r.1 = px_cn ci := by
  have hl := (List.getElem?_eq_some_iff.mp h).1
  rw [px_cllen] at hl
  have := of_decide_eq_true (List.all_eq_true.mp px_clname ci (List.mem_range.mpr hl))
  rw [h] at this
  exact Option.some.inj this
section PXU
variable {E : px_E} {p : Program} {l : Launch} {e : Env} {Rm : Room} {s : State} {mi : MethodId} {args : Array Value} {below : List Frame} {meth : Method} {c : Code} {Q : State → Prop} {n0 q0 m pc : Nat} {pl pl' : px_L} {st st' : List Value} {I I' : px_HI} {J J' : px_HJ} {R R' : px_HR} {S S' : px_HS} {n n' q q' pc' a b cc nx : Nat} {tb : List (Nat × Nat)} {v : Value}
theorem px_s34 (hA : px_At E p s mi args meth c n0 m) (hD : px_D m pc (34, a, b, cc, nx, tb, v)) (hs : px_st (34, a, b, cc, nx, tb, v) pl st I J R S n q = some (pc', pl', st', I', J', R', S', n', q')) (hroom : n' ≤ n0 + Rm.cells ∧ q' ≤ q0 + Rm.slots) (hfr : 1 ≤ Rm.frames ∧ 100 ≤ Rm.locals) (hg : px_Go E p l e Rm s mi args below meth c Q n0 q0 m pc' pl' st' I' J' R' S' n' q') : px_Go E p l e Rm s mi args below meth c Q n0 q0 m pc pl st I J R S n q := by
  intro H locs ls cells slots hc hq hR hL hS
  obtain ⟨hd, hnx, hcc⟩ := hD
  obtain ⟨hm, hx, hb, hr, hlk, hml, hown, hts, hname, hK, hbs⟩ := hA
  simp only [px_st] at hs
  simp only [px_ins] at hd hnx
  split at hs
  · rename_i hn6
    have hn6 := (Nat.blt_eq.mp hn6)
    simp only [Option.some.injEq, Prod.mk.injEq] at hs
    obtain ⟨rfl, rfl, rfl, rfl, rfl, rfl, rfl, rfl, rfl⟩ := hs
    subst hnx
    simp only [px_cc, List.any_eq_true, Bool.and_eq_true, Nat.beq_eq] at hcc
    obtain ⟨e1, he, ⟨⟨q1, q2⟩, q3⟩, q4⟩ := hcc
    have hw := List.all_eq_true.mp px_neall e1 he
    unfold px_neok at hw
    cases hr1 : px_cl[e1.2.2.1]? with
    | none => rw [hr1] at hw; cases hw
    | some r =>
      rw [hr1] at hw q4
      have q4 : r.2.2 = b := Nat.beq_eq.mp q4
      have hw := px_w1 hts hw
      rw [q1, q2] at hw
      obtain ⟨c1, c2, c3, c4⟩ := px_clok hr1
      have hKn := hK.1.1 _ _ hr1
      have hl13 := (List.getElem?_eq_some_iff.mp hr1).1
      rw [px_cllen] at hl13
      refine px_size fun hsz => ?_
      have hsz2 := px_sz hR hbs hc hS hsz
      refine W.newcK hx hb hown (hw _ List.mem_cons_self) (hw _ (List.mem_cons_of_mem _ List.mem_cons_self)) (hw _ (List.mem_cons_of_mem _ (List.mem_cons_of_mem _ List.mem_cons_self))) rfl hd (by omega) (by omega) hKn.2.1 hsz2 fun H1 kC hkC e1 z1 o1 => ?_
      have hcell : va_at E.2.2.1 px_cl (E.1 + n, px_ce E (px_z I n 0) (px_z J n 0) (px_z R n none) (px_us S n (a, b)) n) H1 := by
        rw [px_ce_o (kd := a) (by rw [px_us_eq]) (by omega) (by omega), ← q3, Nat.add_sub_cancel_left]
        refine ⟨r, hr1, (u_born (px_ty _) hts c1 hKn hkC e1 c2).to fun k hk => ?_⟩
        rw [px_dflt (c4 k hk)]
        unfold vp_V
        rw [List.getD_eq_getElem?_getD, List.getElem?_map, List.getElem?_range (by unfold px_N; rw [hr1]; exact hk)]
        show _ = px_fv _ _ _ _ _ _ _
        unfold px_fv
        rw [px_z_eq, px_z_eq, px_z_eq]
        rfl
      have h := hg H1 locs ls (cells + 1) (slots + b) (by omega) (by omega) (hR.push hn6 hsz2 o1 (px_rwo (by omega) (by omega)) hcell) hL ⟨by have := hS.1; omega, fun x h1 h2 => (o1 x (by have := hS.1; omega)).trans (hS.2.1 x h1 h2), hS.2.2⟩
      rw [List.map_cons] at h
      rw [show px_rn E (.ref n) = .ref (E.1 + n) by show Value.ref (px_al E n) = _; unfold px_al; rw [if_pos hn6]] at h
      rw [q4]
      exact h
  · cases hs
theorem px_s35 (hA : px_At E p s mi args meth c n0 m) (hD : px_D m pc (35, a, b, cc, nx, tb, v)) (hs : px_st (35, a, b, cc, nx, tb, v) pl st I J R S n q = some (pc', pl', st', I', J', R', S', n', q')) (hroom : n' ≤ n0 + Rm.cells ∧ q' ≤ q0 + Rm.slots) (hfr : 1 ≤ Rm.frames ∧ 100 ≤ Rm.locals) (hg : px_Go E p l e Rm s mi args below meth c Q n0 q0 m pc' pl' st' I' J' R' S' n' q') : px_Go E p l e Rm s mi args below meth c Q n0 q0 m pc pl st I J R S n q := by
  intro H locs ls cells slots hc hq hR hL hS
  obtain ⟨hd, hnx, hcc⟩ := hD
  obtain ⟨hm, hx, hb, hr, hlk, hml, hown, hts, hname, hK, hbs⟩ := hA
  simp only [px_st] at hs
  simp only [px_ins] at hd hnx
  split at hs
  · rename_i x st1
    split at hs
    · rename_i hn6
      simp only [Bool.and_eq_true, decide_eq_true_eq, Nat.blt_eq] at hn6
      obtain ⟨⟨hx0, hx1⟩, hn6⟩ := hn6
      simp only [Option.some.injEq, Prod.mk.injEq] at hs
      obtain ⟨rfl, rfl, rfl, rfl, rfl, rfl, rfl, rfl, rfl⟩ := hs
      simp only [px_cc, Bool.or_eq_true, Nat.beq_eq] at hcc
      refine px_size fun hsz => ?_
      have hsz2 := px_sz hR hbs hc hS hsz
      have e2 : px_rn E (.ref n) = .ref (E.1 + n) := by show Value.ref (px_al E n) = _; unfold px_al; rw [if_pos hn6]
      rcases hcc with (rfl | rfl) | rfl
      · try dsimp only at hd hnx
        subst hnx
        refine va_newaK (atype := .int) hx hb (hts _ px_acs.1) rfl hd rfl hx0 rfl (px_cbi hx1).1 (by omega) (by omega) hsz2 fun H1 cA e1 z1 o1 hAr hNm => ?_
        have hcA : cA = E.2.2.2.1 0 := Option.some.inj (hNm.symm.trans (hK.1.2 0 _ rfl).2)
        subst hcA
        have hcell : va_at E.2.2.1 px_cl (E.1 + n, px_ce E (px_z I n 0) (px_z J n 0) (px_z R n none) (px_us S n (100, x.toNatClampNeg)) n) H1 := by
          unfold px_ce
          rw [px_us_eq]
          show H1[E.1 + n]? = some (vp_cell _ (x.toNatClampNeg, .inl (px_z I n 0 n)))
          rw [e1]
          refine congrArg some ((congrArg (arrV _ _) (funext fun j => ?_)).trans (vp_cell_i _ _ _).symm)
          rw [px_z_eq]
          rfl
        have h := hg H1 locs ls (cells + 1) (slots + x.toNatClampNeg) (by omega) (by omega) (hR.push hn6 hsz2 o1 rfl hcell) hL ⟨by have := hS.1; omega, fun x h1 h2 => (o1 x (by have := hS.1; omega)).trans (hS.2.1 x h1 h2), hS.2.2⟩
        rw [List.map_cons, e2] at h
        exact h
      · try dsimp only at hd hnx
        subst hnx
        refine va_newaK (atype := .long) hx hb (hts _ px_acs.2.1) rfl hd rfl hx0 rfl (px_cbi hx1).2.1 (by omega) (by omega) hsz2 fun H1 cA e1 z1 o1 hAr hNm => ?_
        have hcA : cA = E.2.2.2.1 1 := Option.some.inj (hNm.symm.trans (hK.1.2 1 _ rfl).2)
        subst hcA
        have hcell : va_at E.2.2.1 px_cl (E.1 + n, px_ce E (px_z I n 0) (px_z J n 0) (px_z R n none) (px_us S n (101, x.toNatClampNeg)) n) H1 := by
          unfold px_ce
          rw [px_us_eq]
          show H1[E.1 + n]? = some (vp_cell _ (x.toNatClampNeg, .inr (.inl (px_z J n 0 n))))
          rw [e1]
          refine congrArg some ((congrArg (arrV _ _) (funext fun j => ?_)).trans (vp_cell_l _ _ _).symm)
          rw [px_z_eq]
          rfl
        have h := hg H1 locs ls (cells + 1) (slots + x.toNatClampNeg) (by omega) (by omega) (hR.push hn6 hsz2 o1 rfl hcell) hL ⟨by have := hS.1; omega, fun x h1 h2 => (o1 x (by have := hS.1; omega)).trans (hS.2.1 x h1 h2), hS.2.2⟩
        rw [List.map_cons, e2] at h
        exact h
      · try dsimp only at hd hnx
        subst hnx
        refine va_newaK (atype := .boolean) hx hb (hts _ px_acs.2.2) rfl hd rfl hx0 rfl (px_cbi hx1).2.2 (by omega) (by omega) hsz2 fun H1 cA e1 z1 o1 hAr hNm => ?_
        have hcA : cA = E.2.2.2.1 2 := Option.some.inj (hNm.symm.trans (hK.1.2 2 _ rfl).2)
        subst hcA
        have hcell : va_at E.2.2.1 px_cl (E.1 + n, px_ce E (px_z I n 0) (px_z J n 0) (px_z R n none) (px_us S n (102, x.toNatClampNeg)) n) H1 := by
          unfold px_ce
          rw [px_us_eq]
          show H1[E.1 + n]? = some (vp_cell _ (x.toNatClampNeg, .inl (px_z I n 0 n)))
          rw [e1]
          refine congrArg some ((congrArg (arrV _ _) (funext fun j => ?_)).trans (vp_cell_i _ _ _).symm)
          rw [px_z_eq]
          rfl
        have h := hg H1 locs ls (cells + 1) (slots + x.toNatClampNeg) (by omega) (by omega) (hR.push hn6 hsz2 o1 rfl hcell) hL ⟨by have := hS.1; omega, fun x h1 h2 => (o1 x (by have := hS.1; omega)).trans (hS.2.1 x h1 h2), hS.2.2⟩
        rw [List.map_cons, e2] at h
        exact h
    · cases hs
  · cases hs
theorem px_s36 (hA : px_At E p s mi args meth c n0 m) (hD : px_D m pc (36, a, b, cc, nx, tb, v)) (hs : px_st (36, a, b, cc, nx, tb, v) pl st I J R S n q = some (pc', pl', st', I', J', R', S', n', q')) (hroom : n' ≤ n0 + Rm.cells ∧ q' ≤ q0 + Rm.slots) (hfr : 1 ≤ Rm.frames ∧ 100 ≤ Rm.locals) (hg : px_Go E p l e Rm s mi args below meth c Q n0 q0 m pc' pl' st' I' J' R' S' n' q') : px_Go E p l e Rm s mi args below meth c Q n0 q0 m pc pl st I J R S n q := by
  intro H locs ls cells slots hc hq hR hL hS
  obtain ⟨hd, hnx, hcc⟩ := hD
  obtain ⟨hm, hx, hb, hr, hlk, hml, hown, hts, hname, hK, hbs⟩ := hA
  simp only [px_st] at hs
  simp only [px_ins] at hd hnx
  split at hs
  · rename_i x st1
    split at hs
    · rename_i hn6
      simp only [Bool.and_eq_true, decide_eq_true_eq, Nat.blt_eq] at hn6
      obtain ⟨⟨hx0, hx1⟩, hn6⟩ := hn6
      simp only [Option.some.injEq, Prod.mk.injEq] at hs
      obtain ⟨rfl, rfl, rfl, rfl, rfl, rfl, rfl, rfl, rfl⟩ := hs
      subst hnx
      simp only [px_cc, List.any_eq_true, Bool.and_eq_true, Nat.beq_eq] at hcc
      obtain ⟨e3, he, ⟨k1, k2⟩, k3⟩ := hcc
      have hw := px_w1 hts (List.all_eq_true.mp px_aeall e3 he) _ List.mem_cons_self
      rw [k1, k2] at hw
      refine px_size fun hsz => ?_
      have hsz2 := px_sz hR hbs hc hS hsz
      have e2 : px_rn E (.ref n) = .ref (E.1 + n) := by show Value.ref (px_al E n) = _; unfold px_al; rw [if_pos hn6]
      have hthree : ∃ C, e3.2.2.2.1 = C ∧ va_AO C s ∧ px_rw a = true ∧ 104 ≤ a ∧ (px_tys E)[a - 100]? = some (E.2.2.2.1 (a - 100), .object C) := by
        rw [← k3]
        simp only [px_ae, List.mem_cons, List.not_mem_nil, or_false] at he
        rcases he with rfl | rfl | rfl
        · exact ⟨_, rfl, hK.2.2.2.2.1.1, rfl, by decide, rfl⟩
        · exact ⟨_, rfl, hK.2.2.2.2.1.2.1, rfl, by decide, rfl⟩
        · exact ⟨_, rfl, hK.2.2.2.2.1.2.2, rfl, by decide, rfl⟩
      obtain ⟨C, hC, hAO, hrw, h104, htys⟩ := hthree
      rw [hC] at hw
      refine W.anew hx hb hown hw (va_AO.use hAO) rfl hd rfl hx0 (by omega) (by omega) (by omega) fun cA kA comp f1 f2 f3 f4 => ?_
      obtain ⟨kA', comp', g1, g2, g3, g4⟩ := (hK.1.2 _ _ htys).2
      have hcA : cA = E.2.2.2.1 (a - 100) := Option.some.inj (f1.symm.trans g4)
      generalize hH1 : H.push ({ cls := cA, slots := Array.replicate x.toNatClampNeg .null, vm := .none } : Cell) = H1
      have e1 : H1[E.1 + n]? = some (arrV cA x.toNatClampNeg (fun _ => .null)) := by rw [← hH1, ← hsz2, Array.getElem?_push_size, ← arrV_new]
      have o1 : ∀ q : Nat, q < E.1 + n → H1[q]? = H[q]? := fun q hq => by rw [← hH1, Array.getElem?_push, if_neg (by omega)]
      have z1 : H1.size = E.1 + n + 1 := by rw [← hH1, Array.size_push, hsz2]
      have hcell : va_at E.2.2.1 px_cl (E.1 + n, px_ce E (px_z I n 0) (px_z J n 0) (px_z R n none) (px_us S n (a, x.toNatClampNeg)) n) H1 := by
        unfold px_ce
        rw [px_us_eq, if_neg (by omega), if_neg (by omega), if_neg (by omega), if_pos h104]
        show H1[E.1 + n]? = some (vp_cell _ (x.toNatClampNeg, .inr (.inr (.inr (.inr (fun j => (px_z R n none n j).map (px_al E)))))))
        rw [e1, hcA]
        refine congrArg some ((congrArg (arrV _ _) (funext fun j => ?_)).trans (vp_cell_q _ _ _).symm)
        rw [px_z_eq]
        rfl
      have h := hg H1 locs ls (cells + 1) (slots + x.toNatClampNeg) (by omega) (by omega) (hR.push hn6 hsz2 o1 hrw hcell) hL ⟨by have := hS.1; omega, fun x h1 h2 => (o1 x (by have := hS.1; omega)).trans (hS.2.1 x h1 h2), hS.2.2⟩
      rw [List.map_cons, e2] at h
      rw [hsz2]
      exact h
    · cases hs
  · cases hs
theorem px_far2 {o kd : Nat} {H : Heap} (hR : px_Rel E I J R S n H) (hk : (S o).1 = kd) (h : px_rw kd = false) (h0 : kd ≠ 0) : 1000000 ≤ o ∧ S o = E.2.2.2.2.2.2 o ∧ I o = E.2.2.2.2.1 o ∧ R o = E.2.2.2.2.2.1 o := px_far hR (by rw [hk]; exact h) (by rw [hk]; exact h0)
theorem px_ar {o : Nat} (h : 100 ≤ (S o).1) (hw : px_rw (S o).1 = true) : ∃ (cA : ClassId) (x : vp_A) (t : Nat) (ty : FieldType), px_ce E I J R S o = .inl (cA, x) ∧ x.1 = (S o).2 ∧ (px_tys E)[t]? = some (cA, ty) := by
  unfold px_ce
  rcases px_rwv hw with ⟨g1, g2⟩ | g | g | g | g | g | g
  · omega
  · exact ⟨_, _, 0, _, by rw [g]; rfl, rfl, rfl⟩
  · exact ⟨_, _, 1, _, by rw [g]; rfl, rfl, rfl⟩
  · exact ⟨_, _, 2, _, by rw [g]; rfl, rfl, rfl⟩
  · exact ⟨_, _, 4, _, by rw [g]; rfl, rfl, rfl⟩
  · exact ⟨_, _, 5, _, by rw [g]; rfl, rfl, rfl⟩
  · exact ⟨_, _, 6, _, by rw [g]; rfl, rfl, rfl⟩
theorem px_s37 (hA : px_At E p s mi args meth c n0 m) (hD : px_D m pc (37, a, b, cc, nx, tb, v)) (hs : px_st (37, a, b, cc, nx, tb, v) pl st I J R S n q = some (pc', pl', st', I', J', R', S', n', q')) (hroom : n' ≤ n0 + Rm.cells ∧ q' ≤ q0 + Rm.slots) (hfr : 1 ≤ Rm.frames ∧ 100 ≤ Rm.locals) (hg : px_Go E p l e Rm s mi args below meth c Q n0 q0 m pc' pl' st' I' J' R' S' n' q') : px_Go E p l e Rm s mi args below meth c Q n0 q0 m pc pl st I J R S n q := by
  intro H locs ls cells slots hc hq hR hL hS
  obtain ⟨hd, hnx, hcc⟩ := hD
  obtain ⟨hm, hx, hb, hr, hlk, hml, hown, hts, hname, hK, hbs⟩ := hA
  simp only [px_st] at hs
  simp only [px_ins] at hd hnx
  split at hs
  · rename_i o st1
    split at hs
    · rename_i hk
      simp only [Bool.and_eq_true, Nat.ble_eq, Bool.not_eq_true'] at hk
      simp only [Option.some.injEq, Prod.mk.injEq] at hs
      obtain ⟨rfl, rfl, rfl, rfl, rfl, rfl, rfl, rfl, rfl⟩ := hs
      subst hnx
      have h := hg H locs ls cells slots hc hq hR hL hS
      have hk1 : (S o).1 ≠ 150 := fun z => by rw [z] at hk; cases hk.2
      rw [List.map_cons]
      cases hw : px_rw (S o).1 with
      | true =>
        have ho := px_lt hR hK hw
        obtain ⟨cA, x, t, ty, g1, g2, g3⟩ := px_ar (E := E) (I := I) (J := J) (R := R) hk.1 hw
        have he := px_wsg (E := E) (I := I) (J := J) (R := R) (S := S) ho
        rw [g1] at he
        rw [show px_rn E (.ref o) = .ref (E.1 + o) by show Value.ref (px_al E o) = _; rw [px_al_lt hR ho]]
        exact va_alen hx hb hK.1 hR.1 o t he g3 (by rw [g2]) hd h
      | false =>
        obtain ⟨g1, g2, g3, g4⟩ := px_far hR hw (by omega)
        rw [show px_rn E (.ref o) = .ref (E.2.1 o) by show Value.ref (px_al E o) = _; rw [px_al_ge g1]]
        rw [g2] at h hk hk1
        rcases hK.2.2.2.2.2.2.2.2.2.2 o g1 with z | z | z | z
        · omega
        · exact absurd z hk1
        · exact va_tlen hx hb (hK.2.2.2.2.2.2.2.1 o z) hS rfl hd h
        · exact va_tlen hx hb (hK.2.2.2.2.2.2.2.2.1 o z) hS rfl hd h
    · cases hs
  · cases hs
theorem px_ci {o : Nat} (h : (S o).1 = 100) : px_ce E I J R S o = .inl (E.2.2.2.1 0, (S o).2, .inl (I o)) := by unfold px_ce; rw [if_pos h]
theorem px_cj2 {o : Nat} (h : (S o).1 = 101) : px_ce E I J R S o = .inl (E.2.2.2.1 1, (S o).2, .inr (.inl (J o))) := by unfold px_ce; rw [h]; rfl
theorem px_cz {o : Nat} (h : (S o).1 = 102) : px_ce E I J R S o = .inl (E.2.2.2.1 2, (S o).2, .inl (I o)) := by unfold px_ce; rw [h]; rfl
theorem px_cr {o : Nat} (h : 104 ≤ (S o).1) : px_ce E I J R S o = .inl (E.2.2.2.1 ((S o).1 - 100), (S o).2, .inr (.inr (.inr (.inr (fun j => (R o j).map (px_al E)))))) := by unfold px_ce; rw [if_neg (by omega), if_neg (by omega), if_neg (by omega), if_pos h]
theorem px_rf {o : Nat} {H : Heap} (hR : px_Rel E I J R S n H) (ho : o < n) : px_rn E (.ref o) = .ref (E.1 + o) := by show Value.ref (px_al E o) = _; rw [px_al_lt hR ho]
theorem px_rg {o : Nat} (g1 : 1000000 ≤ o) : px_rn E (.ref o) = .ref (E.2.1 o) := by show Value.ref (px_al E o) = _; rw [px_al_ge g1]
theorem px_s38 (hA : px_At E p s mi args meth c n0 m) (hD : px_D m pc (38, a, b, cc, nx, tb, v)) (hs : px_st (38, a, b, cc, nx, tb, v) pl st I J R S n q = some (pc', pl', st', I', J', R', S', n', q')) (hroom : n' ≤ n0 + Rm.cells ∧ q' ≤ q0 + Rm.slots) (hfr : 1 ≤ Rm.frames ∧ 100 ≤ Rm.locals) (hg : px_Go E p l e Rm s mi args below meth c Q n0 q0 m pc' pl' st' I' J' R' S' n' q') : px_Go E p l e Rm s mi args below meth c Q n0 q0 m pc pl st I J R S n q := by
  intro H locs ls cells slots hc hq hR hL hS
  obtain ⟨hd, hnx, hcc⟩ := hD
  obtain ⟨hm, hx, hb, hr, hlk, hml, hown, hts, hname, hK, hbs⟩ := hA
  simp only [px_st] at hs
  simp only [px_ins] at hd hnx
  split at hs
  · rename_i x o st1
    split at hs
    · rename_i hk
      simp only [Bool.and_eq_true, Bool.or_eq_true, Nat.beq_eq] at hk
      simp only [Option.some.injEq, Prod.mk.injEq] at hs
      obtain ⟨rfl, rfl, rfl, rfl, rfl, rfl, rfl, rfl, rfl⟩ := hs
      subst hnx
      have h := hg H locs ls cells slots hc hq hR hL hS
      rw [List.map_cons, List.map_cons]
      have hin := px_inv hk.2
      rcases hk.1 with hk1 | hk1
      · have ho := px_lt hR hK (o := o) (by rw [hk1]; rfl)
        have he := px_wsg (E := E) (I := I) (J := J) (R := R) (S := S) ho
        rw [px_ci hk1] at he
        rw [px_rf hR ho]
        exact va_iald hx hb hK.1 hR.1 o 0 he rfl hin hd h
      · obtain ⟨g1, g2, g3, g4⟩ := px_far2 hR hk1 rfl (by decide)
        rw [px_rg g1]
        rw [g2] at hin hk1
        exact va_ti hx hb (hK.2.2.2.2.2.2.2.1 o hk1) hS hin (by rw [← g3]; rfl) hd h
    · cases hs
  · cases hs
theorem px_s39 (hA : px_At E p s mi args meth c n0 m) (hD : px_D m pc (39, a, b, cc, nx, tb, v)) (hs : px_st (39, a, b, cc, nx, tb, v) pl st I J R S n q = some (pc', pl', st', I', J', R', S', n', q')) (hroom : n' ≤ n0 + Rm.cells ∧ q' ≤ q0 + Rm.slots) (hfr : 1 ≤ Rm.frames ∧ 100 ≤ Rm.locals) (hg : px_Go E p l e Rm s mi args below meth c Q n0 q0 m pc' pl' st' I' J' R' S' n' q') : px_Go E p l e Rm s mi args below meth c Q n0 q0 m pc pl st I J R S n q := by
  intro H locs ls cells slots hc hq hR hL hS
  obtain ⟨hd, hnx, hcc⟩ := hD
  obtain ⟨hm, hx, hb, hr, hlk, hml, hown, hts, hname, hK, hbs⟩ := hA
  simp only [px_st] at hs
  simp only [px_ins] at hd hnx
  split at hs
  · rename_i x o st1
    split at hs
    · rename_i hk
      simp only [Bool.and_eq_true, Bool.or_eq_true, Nat.beq_eq] at hk
      simp only [Option.some.injEq, Prod.mk.injEq] at hs
      obtain ⟨rfl, rfl, rfl, rfl, rfl, rfl, rfl, rfl, rfl⟩ := hs
      subst hnx
      have h := hg H locs ls cells slots hc hq hR hL hS
      rw [List.map_cons, List.map_cons]
      have hin := px_inv hk.2
      have hk1 := hk.1
      have ho := px_lt hR hK (o := o) (by rw [hk1]; rfl)
      have he := px_wsg (E := E) (I := I) (J := J) (R := R) (S := S) ho
      rw [px_cj2 hk1] at he
      rw [px_rf hR ho]
      exact va_lald hx hb hK.1 hR.1 o 1 he rfl hin hd h
    · cases hs
  · cases hs
theorem px_s40 (hA : px_At E p s mi args meth c n0 m) (hD : px_D m pc (40, a, b, cc, nx, tb, v)) (hs : px_st (40, a, b, cc, nx, tb, v) pl st I J R S n q = some (pc', pl', st', I', J', R', S', n', q')) (hroom : n' ≤ n0 + Rm.cells ∧ q' ≤ q0 + Rm.slots) (hfr : 1 ≤ Rm.frames ∧ 100 ≤ Rm.locals) (hg : px_Go E p l e Rm s mi args below meth c Q n0 q0 m pc' pl' st' I' J' R' S' n' q') : px_Go E p l e Rm s mi args below meth c Q n0 q0 m pc pl st I J R S n q := by
  intro H locs ls cells slots hc hq hR hL hS
  obtain ⟨hd, hnx, hcc⟩ := hD
  obtain ⟨hm, hx, hb, hr, hlk, hml, hown, hts, hname, hK, hbs⟩ := hA
  simp only [px_st] at hs
  simp only [px_ins] at hd hnx
  split at hs
  · rename_i x o st1
    split at hs
    · rename_i hk
      simp only [Bool.and_eq_true, Bool.or_eq_true, Nat.beq_eq] at hk
      simp only [Option.some.injEq, Prod.mk.injEq] at hs
      obtain ⟨rfl, rfl, rfl, rfl, rfl, rfl, rfl, rfl, rfl⟩ := hs
      subst hnx
      have h := hg H locs ls cells slots hc hq hR hL hS
      rw [List.map_cons, List.map_cons]
      have hin := px_inv hk.2
      rcases hk.1 with hk1 | hk1
      · have ho := px_lt hR hK (o := o) (by rw [hk1]; rfl)
        have he := px_wsg (E := E) (I := I) (J := J) (R := R) (S := S) ho
        rw [px_cz hk1] at he
        rw [px_rf hR ho]
        exact va_zald hx hb hK.1 hR.1 o 2 he rfl hin hd h
      · obtain ⟨g1, g2, g3, g4⟩ := px_far2 hR hk1 rfl (by decide)
        rw [px_rg g1]
        rw [g2] at hin hk1
        exact va_tb hx hb (hK.2.2.2.2.2.2.2.2.1 o hk1) hS hin (by rw [← g3]; rfl) hd h
    · cases hs
  · cases hs
theorem px_s41 (hA : px_At E p s mi args meth c n0 m) (hD : px_D m pc (41, a, b, cc, nx, tb, v)) (hs : px_st (41, a, b, cc, nx, tb, v) pl st I J R S n q = some (pc', pl', st', I', J', R', S', n', q')) (hroom : n' ≤ n0 + Rm.cells ∧ q' ≤ q0 + Rm.slots) (hfr : 1 ≤ Rm.frames ∧ 100 ≤ Rm.locals) (hg : px_Go E p l e Rm s mi args below meth c Q n0 q0 m pc' pl' st' I' J' R' S' n' q') : px_Go E p l e Rm s mi args below meth c Q n0 q0 m pc pl st I J R S n q := by
  intro H locs ls cells slots hc hq hR hL hS
  obtain ⟨hd, hnx, hcc⟩ := hD
  obtain ⟨hm, hx, hb, hr, hlk, hml, hown, hts, hname, hK, hbs⟩ := hA
  simp only [px_st] at hs
  simp only [px_ins] at hd hnx
  split at hs
  · rename_i x o st1
    split at hs
    · rename_i hk
      simp only [Bool.and_eq_true] at hk
      simp only [Option.some.injEq, Prod.mk.injEq] at hs
      obtain ⟨rfl, rfl, rfl, rfl, rfl, rfl, rfl, rfl, rfl⟩ := hs
      subst hnx
      have h := hg H locs ls cells slots hc hq hR hL hS
      rw [List.map_cons, List.map_cons]
      have hin := px_inv hk.2
      obtain ⟨e1, he1, hek⟩ := px_lk hk.1
      simp only [px_cc] at hcc
      have hcc := List.all_eq_true.mp hcc e1 he1
      simp only [Bool.or_eq_true, Nat.beq_eq, hek] at hcc
      have hrw : px_rw (S o).1 = true := by rcases hcc with (z | z) | z <;> rw [z] <;> rfl
      have ho := px_lt hR hK hrw
      have he := px_wsg (E := E) (I := I) (J := J) (R := R) (S := S) ho
      rw [px_cr (by omega)] at he
      rw [px_rf hR ho]
      rw [List.map_cons, ← px_vrf] at h
      rcases hcc with (z | z) | z
      · exact va_aldq hx hb hK.1 hR.1 o 4 he (by rw [z]; rfl) hin hd h
      · exact va_aldq hx hb hK.1 hR.1 o 5 he (by rw [z]; rfl) hin hd h
      · exact va_aldq hx hb hK.1 hR.1 o 6 he (by rw [z]; rfl) hin hd h
    · cases hs
  · cases hs
theorem px_s42 (hA : px_At E p s mi args meth c n0 m) (hD : px_D m pc (42, a, b, cc, nx, tb, v)) (hs : px_st (42, a, b, cc, nx, tb, v) pl st I J R S n q = some (pc', pl', st', I', J', R', S', n', q')) (hroom : n' ≤ n0 + Rm.cells ∧ q' ≤ q0 + Rm.slots) (hfr : 1 ≤ Rm.frames ∧ 100 ≤ Rm.locals) (hg : px_Go E p l e Rm s mi args below meth c Q n0 q0 m pc' pl' st' I' J' R' S' n' q') : px_Go E p l e Rm s mi args below meth c Q n0 q0 m pc pl st I J R S n q := by
  intro H locs ls cells slots hc hq hR hL hS
  obtain ⟨hd, hnx, hcc⟩ := hD
  obtain ⟨hm, hx, hb, hr, hlk, hml, hown, hts, hname, hK, hbs⟩ := hA
  simp only [px_st] at hs
  simp only [px_ins] at hd hnx
  split at hs
  · rename_i y x o st1
    split at hs
    · rename_i hk
      simp only [Bool.and_eq_true, Nat.beq_eq] at hk
      simp only [Option.some.injEq, Prod.mk.injEq] at hs
      obtain ⟨rfl, rfl, rfl, rfl, rfl, rfl, rfl, rfl, rfl⟩ := hs
      subst hnx
      rw [List.map_cons, List.map_cons, List.map_cons]
      have hin := px_inv hk.2
      have hk1 := hk.1
      have ho := px_lt hR hK (o := o) (by rw [hk1]; rfl)
      have he := px_wsg (E := E) (I := I) (J := J) (R := R) (S := S) ho
      rw [px_ci hk1] at he
      rw [px_rf hR ho]
      refine va_iast hx hb hK.1 hR.1 (px_wsD _ _ _ _ _ _) hS o 0 he rfl hin hd (fun H1 locs1 hP hD2 hS1 => hg H1 locs1 ls cells slots hc hq (hR.upd (I' := px_u I o x.toNatClampNeg y) (J' := J) (R' := R) ho hP ?_ (fun b1 hb1 => ⟨px_u_ne hb1, rfl, rfl⟩)) hL hS1)
      rw [px_ci hk1]
      congr 2
      congr 1
      congr 1
      funext j
      rw [px_u_eq]
      rfl
    · cases hs
  · cases hs
theorem px_s43 (hA : px_At E p s mi args meth c n0 m) (hD : px_D m pc (43, a, b, cc, nx, tb, v)) (hs : px_st (43, a, b, cc, nx, tb, v) pl st I J R S n q = some (pc', pl', st', I', J', R', S', n', q')) (hroom : n' ≤ n0 + Rm.cells ∧ q' ≤ q0 + Rm.slots) (hfr : 1 ≤ Rm.frames ∧ 100 ≤ Rm.locals) (hg : px_Go E p l e Rm s mi args below meth c Q n0 q0 m pc' pl' st' I' J' R' S' n' q') : px_Go E p l e Rm s mi args below meth c Q n0 q0 m pc pl st I J R S n q := by
  intro H locs ls cells slots hc hq hR hL hS
  obtain ⟨hd, hnx, hcc⟩ := hD
  obtain ⟨hm, hx, hb, hr, hlk, hml, hown, hts, hname, hK, hbs⟩ := hA
  simp only [px_st] at hs
  simp only [px_ins] at hd hnx
  split at hs
  · rename_i y x o st1
    split at hs
    · rename_i hk
      simp only [Bool.and_eq_true, Nat.beq_eq] at hk
      simp only [Option.some.injEq, Prod.mk.injEq] at hs
      obtain ⟨rfl, rfl, rfl, rfl, rfl, rfl, rfl, rfl, rfl⟩ := hs
      subst hnx
      rw [List.map_cons, List.map_cons, List.map_cons]
      have hin := px_inv hk.2
      have hk1 := hk.1
      have ho := px_lt hR hK (o := o) (by rw [hk1]; rfl)
      have he := px_wsg (E := E) (I := I) (J := J) (R := R) (S := S) ho
      rw [px_cj2 hk1] at he
      rw [px_rf hR ho]
      refine va_last hx hb hK.1 hR.1 (px_wsD _ _ _ _ _ _) hS o 1 he rfl hin hd (fun H1 locs1 hP hD2 hS1 => hg H1 locs1 ls cells slots hc hq (hR.upd (I' := I) (J' := px_u J o x.toNatClampNeg y) (R' := R) ho hP ?_ (fun b1 hb1 => ⟨rfl, px_u_ne hb1, rfl⟩)) hL hS1)
      rw [px_cj2 hk1]
      congr 2
      congr 1
      congr 1
      congr 1
      funext j
      rw [px_u_eq]
      rfl
    · cases hs
  · cases hs
theorem px_s44 (hA : px_At E p s mi args meth c n0 m) (hD : px_D m pc (44, a, b, cc, nx, tb, v)) (hs : px_st (44, a, b, cc, nx, tb, v) pl st I J R S n q = some (pc', pl', st', I', J', R', S', n', q')) (hroom : n' ≤ n0 + Rm.cells ∧ q' ≤ q0 + Rm.slots) (hfr : 1 ≤ Rm.frames ∧ 100 ≤ Rm.locals) (hg : px_Go E p l e Rm s mi args below meth c Q n0 q0 m pc' pl' st' I' J' R' S' n' q') : px_Go E p l e Rm s mi args below meth c Q n0 q0 m pc pl st I J R S n q := by
  intro H locs ls cells slots hc hq hR hL hS
  obtain ⟨hd, hnx, hcc⟩ := hD
  obtain ⟨hm, hx, hb, hr, hlk, hml, hown, hts, hname, hK, hbs⟩ := hA
  simp only [px_st] at hs
  simp only [px_ins] at hd hnx
  split at hs
  · rename_i y x o st1
    split at hs
    · rename_i hk
      simp only [Bool.and_eq_true, Nat.beq_eq] at hk
      simp only [Option.some.injEq, Prod.mk.injEq] at hs
      obtain ⟨rfl, rfl, rfl, rfl, rfl, rfl, rfl, rfl, rfl⟩ := hs
      subst hnx
      rw [List.map_cons, List.map_cons, List.map_cons]
      have hin := px_inv hk.1.2
      have hk1 := hk.1.1
      have ho := px_lt hR hK (o := o) (by rw [hk1]; rfl)
      have he := px_wsg (E := E) (I := I) (J := J) (R := R) (S := S) ho
      rw [px_cz hk1] at he
      rw [px_rf hR ho]
      refine va_zast hx hb hK.1 hR.1 (px_wsD _ _ _ _ _ _) hS o 2 he rfl hin hd (fun H1 locs1 hP hD2 hS1 => hg H1 locs1 ls cells slots hc hq (hR.upd (I' := px_u I o x.toNatClampNeg y) (J' := J) (R' := R) ho hP ?_ (fun b1 hb1 => ⟨px_u_ne hb1, rfl, rfl⟩)) hL hS1)
      rw [px_cz hk1]
      congr 2
      congr 1
      congr 1
      funext j
      rw [px_u_eq]
      have e4 : vp_nar .boolean y = y := by
        have := (px_nbi (x := y) (of_decide_eq_true hk.2)).1
        unfold vp_nar
        rw [this]
      rw [e4]
      rfl
    · cases hs
  · cases hs
theorem px_any {y kd : Nat} {C : String} {H : Heap} {args : Array Value} (hK : px_K E s) (hR : px_Rel E I J R S n H) (hk : (S y).1 = kd) (h1 : 10 ≤ kd) (h2 : kd ≤ 22) (hq : (px_cn (kd - 10), C) ∈ px_cast ∨ px_cn (kd - 10) = C) : va_Any C s H (E.1 + y) := by
  have hy := px_lt hR hK (o := y) (by rw [hk]; exact px_rwo h1 h2)
  have he := px_wsg (E := E) (I := I) (J := J) (R := R) (S := S) hy
  rw [px_ce_o hk h1 h2] at he
  have hl : kd - 10 < px_cl.length := by rw [px_cllen]; omega
  have hr : px_cl[kd - 10]? = some px_cl[kd - 10] := List.getElem?_eq_getElem hl
  refine va_rAny hK.1 hR.1 he hr fun comp c0 f1 f2 => ?_
  rw [px_cln hr] at f2
  rcases hq with hq | hq
  · obtain ⟨c1, t1, g1, g2, g3⟩ := Cond.castable_spec (va_Nw.use (A := args) rfl (hK.2.2.1 _ hq))
    cases f2.symm.trans g1
    cases f1.symm.trans g2
    exact g3
  · rw [hq] at f2
    cases f1.symm.trans f2
    have := (hK.1.1 _ _ hr).2
    rw [px_cln hr, hq] at this
    cases f1.symm.trans this.1
    exact va_assign this
theorem px_s45 (hA : px_At E p s mi args meth c n0 m) (hD : px_D m pc (45, a, b, cc, nx, tb, v)) (hs : px_st (45, a, b, cc, nx, tb, v) pl st I J R S n q = some (pc', pl', st', I', J', R', S', n', q')) (hroom : n' ≤ n0 + Rm.cells ∧ q' ≤ q0 + Rm.slots) (hfr : 1 ≤ Rm.frames ∧ 100 ≤ Rm.locals) (hg : px_Go E p l e Rm s mi args below meth c Q n0 q0 m pc' pl' st' I' J' R' S' n' q') : px_Go E p l e Rm s mi args below meth c Q n0 q0 m pc pl st I J R S n q := by
  intro H locs ls cells slots hc hq hR hL hS
  obtain ⟨hd, hnx, hcc⟩ := hD
  obtain ⟨hm, hx, hb, hr, hlk, hml, hown, hts, hname, hK, hbs⟩ := hA
  simp only [px_st] at hs
  simp only [px_ins] at hd hnx
  split at hs
  · rename_i y x o st1
    split at hs
    · rename_i hk
      simp only [Bool.and_eq_true, List.contains_iff_mem] at hk
      simp only [Option.some.injEq, Prod.mk.injEq] at hs
      obtain ⟨rfl, rfl, rfl, rfl, rfl, rfl, rfl, rfl, rfl⟩ := hs
      subst hnx
      rw [List.map_cons, List.map_cons, List.map_cons]
      have hin := px_inv hk.2
      simp only [px_cc] at hcc
      have hcc := List.all_eq_true.mp hcc _ hk.1
      simp only [Bool.and_eq_true, Bool.or_eq_true, Nat.beq_eq, Nat.ble_eq] at hcc
      have hfin : ∃ (t : Nat) (C : String), (px_tys E)[t]? = some (E.2.2.2.1 ((S o).1 - 100), .object C) ∧ va_Any C s H (E.1 + y) ∧ px_rw (S o).1 = true ∧ 104 ≤ (S o).1 ∧ px_rw (S y).1 = true := by
        rcases hcc with (⟨⟨z1, z2⟩, z3⟩ | ⟨z1, z2⟩) | ⟨z1, z2⟩
        · refine ⟨4, _, by rw [z1]; rfl, px_any (args := args) hK hR rfl z2 (by omega) ?_, by rw [z1]; rfl, by omega, px_rwo z2 (by omega)⟩
          generalize (S y).1 = kd at z2 z3
          rcases (show kd = 10 ∨ kd = 11 ∨ kd = 12 ∨ kd = 13 ∨ kd = 14 ∨ kd = 15 by omega) with rfl | rfl | rfl | rfl | rfl | rfl
          · exact Or.inr rfl
          · exact Or.inl (by decide +kernel)
          · exact Or.inl (by decide +kernel)
          · exact Or.inl (by decide +kernel)
          · exact Or.inl (by decide +kernel)
          · exact Or.inl (by decide +kernel)
        · exact ⟨5, _, by rw [z1]; rfl, px_any (args := args) hK hR z2 (by decide) (by decide) (Or.inr rfl), by rw [z1]; rfl, by omega, by rw [z2]; rfl⟩
        · exact ⟨6, _, by rw [z1]; rfl, px_any (args := args) hK hR z2 (by decide) (by decide) (Or.inr rfl), by rw [z1]; rfl, by omega, by rw [z2]; rfl⟩
      obtain ⟨t, C, g1, g2, g3, g4, g5⟩ := hfin
      have ho := px_lt hR hK g3
      have hy := px_lt hR hK g5
      have he := px_wsg (E := E) (I := I) (J := J) (R := R) (S := S) ho
      rw [px_cr g4] at he
      rw [px_rf hR ho, px_rf hR hy]
      refine va_astqM hx hb hK.1 hR.1 (px_wsD _ _ _ _ _ _) hS o t he g1 g2 hin hd (fun H1 locs1 hP hD2 hS1 => hg H1 locs1 ls cells slots hc hq (hR.upd (I' := I) (J' := J) (R' := px_u R o x.toNatClampNeg (some y)) ho hP ?_ (fun b1 hb1 => ⟨rfl, rfl, px_u_ne hb1⟩)) hL hS1)
      rw [px_cr g4]
      refine congrArg (fun f => Sum.inl (E.2.2.2.1 ((S o).1 - 100), (S o).2, Sum.inr (Sum.inr (Sum.inr (Sum.inr f))))) (funext fun j => ?_)
      rw [px_u_eq]
      unfold va_up
      by_cases hj : j = x.toNatClampNeg
      · rw [if_pos hj, if_pos hj, Option.map_some, px_al_lt hR hy]
      · rw [if_neg hj, if_neg hj]
    · cases hs
  · cases hs
theorem px_s46 (hA : px_At E p s mi args meth c n0 m) (hD : px_D m pc (46, a, b, cc, nx, tb, v)) (hs : px_st (46, a, b, cc, nx, tb, v) pl st I J R S n q = some (pc', pl', st', I', J', R', S', n', q')) (hroom : n' ≤ n0 + Rm.cells ∧ q' ≤ q0 + Rm.slots) (hfr : 1 ≤ Rm.frames ∧ 100 ≤ Rm.locals) (hg : px_Go E p l e Rm s mi args below meth c Q n0 q0 m pc' pl' st' I' J' R' S' n' q') : px_Go E p l e Rm s mi args below meth c Q n0 q0 m pc pl st I J R S n q := by
  intro H locs ls cells slots hc hq hR hL hS
  obtain ⟨hd, hnx, hcc⟩ := hD
  obtain ⟨hm, hx, hb, hr, hlk, hml, hown, hts, hname, hK, hbs⟩ := hA
  simp only [px_st] at hs
  simp only [px_ins] at hd hnx
  split at hs
  · rename_i o st1
    split at hs
    · rename_i z hz
      simp only [Option.some.injEq, Prod.mk.injEq] at hs
      obtain ⟨rfl, rfl, rfl, rfl, rfl, rfl, rfl, rfl, rfl⟩ := hs
      subst hnx
      have h := hg H locs ls cells slots hc hq hR hL hS
      rw [List.map_cons] at h ⊢
      simp only [px_cc] at hcc
      have hcc := List.all_eq_true.mp hcc _ (px_lk2 hz)
      simp only [Bool.and_eq_true, Nat.ble_eq, List.any_eq_true, Nat.beq_eq] at hcc
      obtain ⟨⟨h1, h2⟩, e1, he1, ⟨⟨k1, k2⟩, k3⟩, k4⟩ := hcc
      have hw := List.all_eq_true.mp px_ieall e1 he1
      simp only [Bool.and_eq_true] at hw
      have hl := px_w1 hts hw.1 _ List.mem_cons_self
      rw [k1, k2] at hl
      have hw2 := hw.2
      rw [k3, k4] at hw2
      have ho := px_lt hR hK (px_rwo h1 (by omega))
      have he := px_wsg (E := E) (I := I) (J := J) (R := R) (S := S) ho
      rw [px_ce_o rfl h1 (by omega)] at he
      have hll : (S o).1 - 10 < px_cl.length := by rw [px_cllen]; omega
      have hr1 : px_cl[(S o).1 - 10]? = some px_cl[(S o).1 - 10] := List.getElem?_eq_getElem hll
      have hrc := va_recv hK.1 hR.1 hr1 he
      rw [px_cln hr1] at hrc
      have hkn : px_kn (S o).1 = px_cn ((S o).1 - 10) := by
        unfold px_kn
        rw [show Nat.beq (S o).1 150 = false from Bool.eq_false_iff.mpr (fun z => by have := Nat.beq_eq.mp z; omega)]
        rfl
      rw [hkn] at hw2
      rw [px_rf hR ho]
      match z, hw2, h with
      | 0, hw2, h =>
        simp only [List.contains_iff_mem] at hw2
        exact va_instNo hx hb hown hl (hK.2.2.2.1 _ hw2) hrc hd h
      | 1, hw2, h =>
        simp only [Bool.or_eq_true, List.contains_iff_mem, decide_eq_true_eq] at hw2
        rcases hw2 with hw2 | hw2
        · exact va_instY hx hb hown hl (hK.2.2.1 _ hw2) hrc hd h
        · rw [hw2] at hrc
          exact va_instE hx hb hown hl hrc hd h
      | z + 2, hw2, h => cases hw2
    · cases hs
  · cases hs
theorem px_row_ne {f : Nat → Int32} {o x : Nat} (h : x ≠ o) : px_row I o f x = I x := by
  funext j
  unfold px_row
  rw [show Nat.beq x o = false from Bool.eq_false_iff.mpr (fun z => h (Nat.beq_eq.mp z))]
  rfl
theorem px_row_eq {f : Nat → Int32} {o : Nat} : px_row I o f o = f := by
  funext j
  unfold px_row
  rw [show Nat.beq o o = true from Nat.beq_eq.mpr rfl]
  rfl
theorem px_s48 (hA : px_At E p s mi args meth c n0 m) (hD : px_D m pc (48, a, b, cc, nx, tb, v)) (hs : px_st (48, a, b, cc, nx, tb, v) pl st I J R S n q = some (pc', pl', st', I', J', R', S', n', q')) (hroom : n' ≤ n0 + Rm.cells ∧ q' ≤ q0 + Rm.slots) (hfr : 1 ≤ Rm.frames ∧ 100 ≤ Rm.locals) (hg : px_Go E p l e Rm s mi args below meth c Q n0 q0 m pc' pl' st' I' J' R' S' n' q') : px_Go E p l e Rm s mi args below meth c Q n0 q0 m pc pl st I J R S n q := by
  intro H locs ls cells slots hc hq hR hL hS
  obtain ⟨hd, hnx, hcc⟩ := hD
  obtain ⟨hm, hx, hb, hr, hlk, hml, hown, hts, hname, hK, hbs⟩ := hA
  simp only [px_st] at hs
  simp only [px_ins] at hd hnx
  split at hs
  · rename_i k dp d sp o st1
    split at hs
    · rename_i hk
      simp only [Bool.and_eq_true, Nat.beq_eq, decide_eq_true_eq, Nat.ble_eq] at hk
      obtain ⟨⟨⟨⟨⟨⟨⟨w1, w2⟩, w3⟩, w4⟩, w5⟩, w6⟩, w7⟩, w8⟩ := hk
      simp only [Option.some.injEq, Prod.mk.injEq] at hs
      obtain ⟨rfl, rfl, rfl, rfl, rfl, rfl, rfl, rfl, rfl⟩ := hs
      subst hnx
      rw [List.map_cons, List.map_cons, List.map_cons, List.map_cons, List.map_cons]
      simp only [px_cc, List.any_eq_true, Bool.and_eq_true, Nat.beq_eq] at hcc
      obtain ⟨e1, he1, k1, k2⟩ := hcc
      have hw := px_w1 hts (List.all_eq_true.mp px_keall e1 he1)
      rw [k1, k2] at hw
      have ho := px_lt hR hK (o := o) (by rw [w1]; rfl)
      have hdd := px_lt hR hK (o := d) (by rw [w2]; rfl)
      have he := px_wsg (E := E) (I := I) (J := J) (R := R) (S := S) ho
      have he2 := px_wsg (E := E) (I := I) (J := J) (R := R) (S := S) hdd
      rw [px_ci w1] at he
      rw [px_ci w2] at he2
      rw [px_rf hR ho, px_rf hR hdd]
      have hlo := px_lo8 (E := E) w8
      have hnf : nativeFrameWords "java/lang/System" "arraycopy" 5 = 7 := by decide
      have h2 := hfr.2
      refine va_copyi hx hb (by rw [hml, hL.1]) hown (hw _ List.mem_cons_self) (hw _ (List.mem_cons_of_mem _ List.mem_cons_self)) (hw _ (List.mem_cons_of_mem _ (List.mem_cons_of_mem _ List.mem_cons_self))) (hw _ (List.mem_cons_of_mem _ (List.mem_cons_of_mem _ (List.mem_cons_of_mem _ List.mem_cons_self)))) hK.1 hR.1 (px_wsD _ _ _ _ _ _) hS o d 0 0 he he2 rfl rfl rfl w3 w4 w5 w6 w7 (fun i hi => rfl) hfr.1 (by rw [hnf]; omega) hd (fun H1 locs1 hP hD2 hS1 => hg H1 locs1 ls cells slots hc hq (hR.upd (I' := px_row I d (va_cpy (I o) (I d) sp.toNatClampNeg dp.toNatClampNeg k.toNatClampNeg)) (J' := J) (R' := R) hdd hP ?_ (fun b1 hb1 => ⟨px_row_ne hb1, rfl, rfl⟩)) hL hS1)
      rw [px_ci w2, px_row_eq]
    · cases hs
  · cases hs
theorem px_s49 (hA : px_At E p s mi args meth c n0 m) (hD : px_D m pc (49, a, b, cc, nx, tb, v)) (hs : px_st (49, a, b, cc, nx, tb, v) pl st I J R S n q = some (pc', pl', st', I', J', R', S', n', q')) (hroom : n' ≤ n0 + Rm.cells ∧ q' ≤ q0 + Rm.slots) (hfr : 1 ≤ Rm.frames ∧ 100 ≤ Rm.locals) (hg : px_Go E p l e Rm s mi args below meth c Q n0 q0 m pc' pl' st' I' J' R' S' n' q') : px_Go E p l e Rm s mi args below meth c Q n0 q0 m pc pl st I J R S n q := by
  intro H locs ls cells slots hc hq hR hL hS
  obtain ⟨hd, hnx, hcc⟩ := hD
  obtain ⟨hm, hx, hb, hr, hlk, hml, hown, hts, hname, hK, hbs⟩ := hA
  simp only [px_st] at hs
  simp only [px_ins] at hd hnx
  split at hs
  · rename_i o st1
    split at hs
    · rename_i hk
      simp only [Option.some.injEq, Prod.mk.injEq] at hs
      obtain ⟨rfl, rfl, rfl, rfl, rfl, rfl, rfl, rfl, rfl⟩ := hs
      subst hnx
      have h := hg H locs ls cells slots hc hq hR hL hS
      rw [List.map_cons]
      simp only [px_cc, List.any_eq_true, Bool.and_eq_true, Nat.beq_eq] at hcc
      obtain ⟨e1, he1, k1, k2⟩ := hcc
      have hw := px_w1 hts (List.all_eq_true.mp px_oeall e1 he1)
      rw [k1, k2] at hw
      have hlo := px_lo8 (E := E) hk
      exact W.objInit hx hb hown (hw _ List.mem_cons_self) (hw _ (List.mem_cons_of_mem _ List.mem_cons_self)) (px_w1 hts px_occ _ List.mem_cons_self) rfl (by show ls.size = _; rw [hml, hL.1]) rfl hd hfr.1 (by have := lv_room (m := mi) (pc := pc) (ls := ls) (rest := px_rn E (.ref o) :: st1.map (px_rn E)) hlo; have h2 := hfr.2; exact Nat.le_trans (Nat.add_le_add_right this 12) (by omega)) h
    · cases hs
  · cases hs
theorem px_s50 (hA : px_At E p s mi args meth c n0 m) (hD : px_D m pc (50, a, b, cc, nx, tb, v)) (hs : px_st (50, a, b, cc, nx, tb, v) pl st I J R S n q = some (pc', pl', st', I', J', R', S', n', q')) (hroom : n' ≤ n0 + Rm.cells ∧ q' ≤ q0 + Rm.slots) (hfr : 1 ≤ Rm.frames ∧ 100 ≤ Rm.locals) (hg : px_Go E p l e Rm s mi args below meth c Q n0 q0 m pc' pl' st' I' J' R' S' n' q') : px_Go E p l e Rm s mi args below meth c Q n0 q0 m pc pl st I J R S n q := by
  intro H locs ls cells slots hc hq hR hL hS
  obtain ⟨hd, hnx, hcc⟩ := hD
  obtain ⟨hm, hx, hb, hr, hlk, hml, hown, hts, hname, hK, hbs⟩ := hA
  simp only [px_st] at hs
  simp only [px_ins] at hd hnx
  simp only [px_cc, List.any_eq_true, Bool.and_eq_true, Nat.beq_eq, Nat.ble_eq] at hcc
  obtain ⟨hb3, e1, he1, ⟨k1, k2⟩, k3⟩ := hcc
  have hw := px_w1 hts (List.all_eq_true.mp px_meall e1 he1)
  rw [k1, k2, k3] at hw
  have w1 := hw _ List.mem_cons_self
  have w2 := hw _ (List.mem_cons_of_mem _ List.mem_cons_self)
  have w3 := hw _ (List.mem_cons_of_mem _ (List.mem_cons_of_mem _ List.mem_cons_self))
  rcases (show b = 0 ∨ b = 1 ∨ b = 2 by omega) with rfl | rfl | rfl
  · change (match st with
      | .int y :: .int x :: st => if px_lo st = true then some (nx, pl, Value.int (if x < y then y else x) :: st, I, J, R, S, n, q) else none
      | _ => none) = _ at hs
    split at hs
    · split at hs
      · rename_i hk
        simp only [Option.some.injEq, Prod.mk.injEq] at hs
        obtain ⟨rfl, rfl, rfl, rfl, rfl, rfl, rfl, rfl, rfl⟩ := hs
        subst hnx
        have h := hg H locs ls cells slots hc hq hR hL hS
        have hlo := px_lo8 (E := E) hk
        have h2 := hfr.2
        exact va_mmax hx hb (by rw [hml, hL.1]) hown w1 w2 w3 (px_w1 hts px_mc0 _ List.mem_cons_self) hfr.1 (by omega) (by omega) (by omega) hd h
      · cases hs
    · cases hs
  · change (match st with
      | .int y :: .int x :: st => if px_lo st = true then some (nx, pl, Value.int (if y < x then y else x) :: st, I, J, R, S, n, q) else none
      | _ => none) = _ at hs
    split at hs
    · split at hs
      · rename_i hk
        simp only [Option.some.injEq, Prod.mk.injEq] at hs
        obtain ⟨rfl, rfl, rfl, rfl, rfl, rfl, rfl, rfl, rfl⟩ := hs
        subst hnx
        have h := hg H locs ls cells slots hc hq hR hL hS
        have hlo := px_lo8 (E := E) hk
        have h2 := hfr.2
        exact va_mmin hx hb (by rw [hml, hL.1]) hown w1 w2 w3 (px_w1 hts px_mc1 _ List.mem_cons_self) hfr.1 (by omega) (by omega) (by omega) hd h
      · cases hs
    · cases hs
  · change (match st with
      | .long y :: .long x :: st => if px_lo st = true then some (nx, pl, Value.long (if y < x then x else y) :: st, I, J, R, S, n, q) else none
      | _ => none) = _ at hs
    split at hs
    · split at hs
      · rename_i hk
        simp only [Option.some.injEq, Prod.mk.injEq] at hs
        obtain ⟨rfl, rfl, rfl, rfl, rfl, rfl, rfl, rfl, rfl⟩ := hs
        subst hnx
        have h := hg H locs ls cells slots hc hq hR hL hS
        have hlo := px_lo8 (E := E) hk
        have h2 := hfr.2
        exact va_mmax_long hx hb (by rw [hml, hL.1]) hown w1 w2 w3 (px_w1 hts px_mc2 _ List.mem_cons_self) hfr.1 (by omega) (by omega) (by omega) hd h
      · cases hs
    · cases hs
end PXU
