theorem px_inits : (List.range px_nm).all (fun m => decide ((px_y m).name ≠ "<init>") || decide (px_rt m = none)) = true := by decide +kernel
section PXC
variable {E : px_E} {p : Program} {l : Launch} {e : Env} {Rm : Room} {s : State} {mi : MethodId} {args : Array Value} {below : List Frame} {meth : Method} {c : Code} {Q : State → Prop} {n0 q0 m pc : Nat} {pl pl' : px_L} {st st' : List Value} {I I' : px_HI} {J J' : px_HJ} {R R' : px_HR} {S S' : px_HS} {n n' q q' pc' a b cc nx : Nat} {tb : List (Nat × Nat)} {v : Value}
set_option maxHeartbeats 4000000 in
theorem px_call {d k : Nat} {as rest : List Value} {r : Option Value} (hA : px_At E p s mi args meth c n0 m) (hD : px_D m pc (47, a, b, cc, nx, tb, v)) (hca : px_ca (47, a, b, cc, nx, tb, v) st S = some (k, as, rest)) (hlo : px_lo rest = true) (hfr : d + 1 ≤ Rm.frames) (hl100 : 100 * (d + 1) ≤ Rm.locals) (hn1 : n ≤ n') (hq1 : q ≤ q') (hroom : n' ≤ n0 + Rm.cells ∧ q' ≤ q0 + Rm.slots)
    (hM : Met l (px_y k) (px_wk k) ({ frames := d, cells := n' - n, slots := q' - q, locals := 100 * d } : Room) (px_Pc E as I J R S n) (px_Qc E r I' J' R' S' n') (n' - n) (q' - q) (px_A E))
    (hg : px_Go E p l e Rm s mi args below meth c Q n0 q0 m nx pl (r.toList ++ rest) I' J' R' S' n' q') : px_Go E p l e Rm s mi args below meth c Q n0 q0 m pc pl st I J R S n q := by
  intro H locs ls cells slots hc hq hR hL hS
  obtain ⟨hm, hx, hb, hr, hlk, hml, hown, hts, hname, hK, hbs⟩ := hA
  obtain ⟨hk1, hk2⟩ := px_kb hD hca
  obtain ⟨hd, hnx, hcc⟩ := hD
  simp only [px_ins] at hd hnx
  subst hnx
  have hmk := px_mall hk2
  unfold px_mok at hmk
  simp only [Bool.and_eq_true, Nat.ble_eq] at hmk
  have hnl : px_nl k ≤ 60 := hmk.1.2
  have hwords := px_words hts hk1 hk2
  have hcm : Cond.code (px_y k) (px_bc k) (px_nl k) (px_rt k) ∈ px_wk k := List.mem_cons_self
  have hcd := hts _ (px_code hk1 hk2)
  refine px_size fun hsz => ?_
  have hsz2 := px_sz hR hbs hc hS hsz
  have hPc : ∀ U : State, U.heap = H → s.WarmedH U.vm → px_Pc E as I J R S n (as.map (px_rn E)).toArray U := fun U hU hW => ⟨rfl, by rw [hU]; exact hR, hK.step hW (by rw [hU]; exact hS.2.1), by rw [hU]; exact hsz2⟩
  have hf : cells + (n' - n) ≤ Rm.cells ∧ slots + (q' - q) ≤ Rm.slots := by omega
  have kk : ∀ (H1 : Heap) (locs1 : List Loc), px_Rel E I' J' R' S' n' H1 → va_S (px_A E) s.heap H1 locs1 → W p l e Rm s mi args below meth c H1 locs1 (cells + (n' - n)) (slots + (q' - q)) Q (F0 mi (pc + 3) ls ((r.map (px_rn E)).toList ++ rest.map (px_rn E))) := fun H1 locs1 hR1 hS1 => by
    rw [← px_tail]
    exact hg H1 locs1 ls _ _ (by omega) (by omega) hR1 hL hS1
  have hlo8 : 2 * (F0 mi pc ls (st.map (px_rn E))).monitorRoom + ((rest.map (px_rn E)).map fun v => v.category).sum ≤ 8 := lv_room (px_lo8 hlo)
  have hbl := px_blind E as I J R S n
  have hsize : (F0 mi pc ls (st.map (px_rn E))).locals.size = px_nl m := hL.1
  have hlc : 8 + (px_nl k + 11) + 100 * d ≤ Rm.locals := by omega
  simp only [px_cc, Bool.and_eq_true] at hcc
  simp only [px_ca] at hca
  split at hca
  · rename_i hle
    have hle : a ≤ st.length := Nat.ble_eq.mp hle
    have hlen0 : (((st.take a).reverse).map (px_rn E)).length = a := by
      rw [List.length_map, List.length_reverse, List.length_take]
      omega
    split at hca
    · split at hca
      · rename_i z t
        cases hca
        obtain ⟨kd, ty, x, g1, g2, g3, g4, g5, g6, g7, g8, g9⟩ := px_cqs (List.all_eq_true.mp hcc.1 z List.mem_cons_self)
        have hlen : ∀ sig, parseMethodDescriptor x.desc = some sig → a = sig.parameters.length := fun sig h => by rw [h] at g8; exact (Option.some.inj g8).symm
        have hty : ty = 0 := by
          split at g4
          · rfl
          · cases g4
          · cases g4
          · cases g4
        subst hty
        have hxy : x = px_y z.2 := of_decide_eq_true g6
        subst hxy
        have w1 := hts _ (g5 _ List.mem_cons_self)
        have w2 := hts _ (g5 _ (List.mem_cons_of_mem _ List.mem_cons_self))
        have w3 := hts _ (g5 _ (List.mem_cons_of_mem _ (List.mem_cons_of_mem _ List.mem_cons_self)))
        have hrun : va_Run p l e Rm s mi args below meth c H locs cells slots (n' - n) (q' - q) (F0 mi pc ls (st.map (px_rn E))) ((st.drop a).map (px_rn E)) (px_Qa E r I' J' R' S' n') (px_A E) :=
          va_runS (As := ((st.take a).reverse).map (px_rn E)) (Qc := px_Qc E r I' J' R' S' n') ⟨hx, hb, hml, hown, hts⟩ hM ⟨⟨rfl, rfl, hfr, hlc, hwords, hcm, hcd, w3, ⟨g7.2.2.1, g7.2.2.2⟩, hlen, w1⟩, w2⟩ ⟨hbl, hPc⟩ rfl hlen0 hsize (px_args st a).symm hlo8 hd hf
        exact px_cont hrun hS kk
      · cases hca
    · rename_i hb0
      split at hca
      · rename_i o rest1 hdrop
        split at hca
        · rename_i k1 hk
          cases hca
          have hstack : (F0 mi pc ls (st.map (px_rn E))).stack = (((st.take a).reverse).map (px_rn E)).reverse ++ .ref (px_al E o) :: rest.map (px_rn E) := by
            show st.map (px_rn E) = _
            rw [← px_args st a, hdrop]
            rfl
          obtain ⟨kd, ty, x, g1, g2, g3, g4, g5, g6, g7, g8, g9⟩ := px_cqs (List.all_eq_true.mp hcc.1 _ (px_lk2 hk))
          have hlen : ∀ sig, parseMethodDescriptor x.desc = some sig → a = sig.parameters.length := fun sig h => by rw [h] at g8; exact (Option.some.inj g8).symm
          dsimp only at g1 g2 g3 g5 g6 g7
          have fin : va_Run p l e Rm s mi args below meth c H locs cells slots (n' - n) (q' - q) (F0 mi pc ls (st.map (px_rn E))) (rest.map (px_rn E)) (px_Qa E r I' J' R' S' n') (px_A E) := by
            match ty, g1, g4, g5, g6, g9 with
            | 0, g1, g4, g5, g6, g9 => exact absurd g4 hb0
            | 1, g1, g4, g5, g6, g9 =>
              subst g4
              have hkd : kd = (S o).1 := by omega
              subst hkd
              obtain ⟨hxy, hcl⟩ : x = px_y k ∧ x.cls = px_kn (S o).1 := of_decide_eq_true g6
              subst hxy
              have w1 := hts _ (g5 _ List.mem_cons_self)
              have w2 := hts _ (g5 _ (List.mem_cons_of_mem _ List.mem_cons_self))
              have w3 := hts _ (g5 _ (List.mem_cons_of_mem _ (List.mem_cons_of_mem _ List.mem_cons_self)))
              have w4 := hts _ (g5 _ (List.mem_cons_of_mem _ (List.mem_cons_of_mem _ (List.mem_cons_of_mem _ List.mem_cons_self))))
              rw [hcl] at w3
              exact va_runV (C := px_kn (S o).1) (As := ((st.take a).reverse).map (px_rn E)) (Qc := px_Qc E r I' J' R' S' n') ⟨hx, hb, hml, hown, hts⟩ hM ⟨⟨rfl, rfl, hfr, hlc, hwords, hcm, hcd, w4, ⟨g7.2.2.1, g7.2.2.2⟩, hlen, w1⟩, w2, w3⟩ ⟨hbl, px_recv hK hR hS (by omega), hPc⟩ rfl hlen0 hsize hstack hlo8 hd hf
            | 2, g1, g4, g5, g6, g9 =>
              subst g4
              have hkd : kd = (S o).1 := by omega
              subst hkd
              unfold px_cx at g6
              simp only [Bool.and_eq_true, decide_eq_true_eq, List.any_eq_true, Nat.ble_eq, List.mem_range] at g6
              obtain ⟨hds, m2, hm2, hm3, hm4⟩ := g6
              have w1 := hts _ (g5 _ List.mem_cons_self)
              have w2 := hts _ (g5 _ (List.mem_cons_of_mem _ List.mem_cons_self))
              have w3 := hts _ (g5 _ (List.mem_cons_of_mem _ (List.mem_cons_of_mem _ List.mem_cons_self)))
              have w4 := hts _ (g5 _ (List.mem_cons_of_mem _ (List.mem_cons_of_mem _ (List.mem_cons_of_mem _ List.mem_cons_self))))
              have w5 := hts _ (g5 _ (List.mem_cons_of_mem _ (List.mem_cons_of_mem _ (List.mem_cons_of_mem _ (List.mem_cons_of_mem _ List.mem_cons_self)))))
              have w6 := hts _ (g5 _ (List.mem_cons_of_mem _ (List.mem_cons_of_mem _ (List.mem_cons_of_mem _ (List.mem_cons_of_mem _ (List.mem_cons_of_mem _ List.mem_cons_self))))))
              have hcx := hts _ (px_code hm4 hm2)
              rw [hm3] at hcx
              exact va_runU (C := px_kn (S o).1) (owner := x.cls) (x := x) (As := ((st.take a).reverse).map (px_rn E)) (Qc := px_Qc E r I' J' R' S' n') ⟨hx, hb, hml, hown, hts⟩ hM ⟨⟨rfl, rfl, hfr, hlc, hwords, hcm⟩, hcd, w6, ⟨g7.1, g7.2.1⟩, hlen, w1, w2, va_Decl.of w3 hcx, w4, w5⟩ ⟨hbl, px_recv hK hR hS (by omega), hPc⟩ rfl hlen0 hsize hstack hlo8 hd hf
            | 3, g1, g4, g5, g6, g9 =>
              subst g4
              obtain ⟨hxy, hin⟩ : x = px_y k ∧ x.name = "<init>" := of_decide_eq_true g6
              subst hxy
              have hrn := List.all_eq_true.mp px_inits k (List.mem_range.mpr hk2)
              simp only [Bool.or_eq_true, decide_eq_true_eq] at hrn
              have hrn : px_rt k = none := by
                rcases hrn with z | z
                · exact absurd hin z
                · exact z
              rw [hrn] at hcm hcd
              have w1 := hts _ (g5 _ List.mem_cons_self)
              have w2 := hts _ (g5 _ (List.mem_cons_of_mem _ List.mem_cons_self))
              have w3 := hts _ (g5 _ (List.mem_cons_of_mem _ (List.mem_cons_of_mem _ List.mem_cons_self)))
              exact va_runI (b := px_al E o) (As := ((st.take a).reverse).map (px_rn E)) (Qc := px_Qc E r I' J' R' S' n') ⟨hx, hb, hml, hown, hts⟩ hM ⟨⟨rfl, rfl, hfr, hlc, hwords, hcm, hcd, w3, ⟨g7.2.2.1, g7.2.2.2⟩, hlen, w1⟩, hin, w2⟩ ⟨hbl, hPc⟩ rfl hlen0 hsize hstack hlo8 hd hf
            | 4, g1, g4, g5, g6, g9 =>
              subst g4
              unfold px_cx at g6
              simp only [Bool.and_eq_true, decide_eq_true_eq, List.any_eq_true] at g6
              obtain ⟨⟨hxy, hin⟩, ⟨z1, z2, z3, z4⟩, hz, hz1, hz2, hz3⟩ := g6
              dsimp only at hz1 hz2 hz3
              subst hxy
              have hnw := hK.2.1 _ hz
              dsimp only at hnw
              rw [hz1, hz2, hz3] at hnw
              have hrn := List.all_eq_true.mp px_inits k (List.mem_range.mpr hk2)
              simp only [Bool.or_eq_true, decide_eq_true_eq] at hrn
              have hrn : px_rt k = none := by
                rcases hrn with z | z
                · exact absurd hin z
                · exact z
              rw [hrn] at hcm hcd
              have w1 := hts _ (g5 _ List.mem_cons_self)
              have w2 := hts _ (g5 _ (List.mem_cons_of_mem _ List.mem_cons_self))
              exact va_runIN (host := z4) (b := px_al E o) (As := ((st.take a).reverse).map (px_rn E)) (Qc := px_Qc E r I' J' R' S' n') ⟨hx, hb, hml, hown, hts⟩ hM ⟨⟨⟨rfl, rfl, hfr, hlc, hwords, hcm⟩, hcd, w2, ⟨g7.2.2.1, g7.2.2.2⟩, hlen, va_Nw.use rfl hnw⟩, hin, w1⟩ ⟨hbl, hPc⟩ rfl hlen0 hsize hstack hlo8 hd hf
            | 5, g1, g4, g5, g6, g9 =>
              subst g4
              have hkd : kd = (S o).1 := by omega
              subst hkd
              obtain ⟨hn2, hn1, hno⟩ : (px_y k).desc = x.desc ∧ (px_y k).name = x.name ∧ x.name ≠ "<init>" := of_decide_eq_true g6
              have w1 := hts _ (g5 _ List.mem_cons_self)
              have w2 := hts _ (g5 _ (List.mem_cons_of_mem _ List.mem_cons_self))
              have w3 := hts _ (g5 _ (List.mem_cons_of_mem _ (List.mem_cons_of_mem _ List.mem_cons_self)))
              have w4 := hts _ (g5 _ (List.mem_cons_of_mem _ (List.mem_cons_of_mem _ (List.mem_cons_of_mem _ List.mem_cons_self))))
              have w5 := hts _ (g5 _ (List.mem_cons_of_mem _ (List.mem_cons_of_mem _ (List.mem_cons_of_mem _ (List.mem_cons_of_mem _ List.mem_cons_self)))))
              have hup : x.cls = (px_y k).cls ∨ (Cond.superclass x.cls (px_y k).cls).before args s = true := by
                by_cases hz : x.cls = (px_y k).cls
                · exact Or.inl hz
                · unfold px_cw at g5
                  rw [if_neg hz] at g5
                  exact Or.inr (hts _ (g5 _ (List.mem_append_right _ List.mem_cons_self)))
              obtain ⟨cellB, f1, f2, f3⟩ := px_recv hK hR hS (o := o) (by omega)
              obtain ⟨kB, hkB, -⟩ := Vm.findClass_spec f3
              exact px_runSU (C := px_kn (S o).1) (x := x) (b := px_al E o) (As := ((st.take a).reverse).map (px_rn E)) (Qc := px_Qc E r I' J' R' S' n') hx hb hml hown hM rfl rfl hfr hlc hwords hcm w1 w2 w3 w4 w5 hcd hup hn1 hn2 hno (fun sig h => hlen0.trans (hlen sig h)) ⟨hbl, ⟨cellB, f1, f2, f3⟩, hPc⟩ f3 hkB rfl hsize hstack hlo8 hd hf
            | ty + 6, g1, g4, g5, g6, g9 => cases g6
          exact px_cont fin hS kk
        · cases hca
      · cases hca
  · cases hca
end PXC
/-- a run of the pure machine is followed, whatever stands below -/
def px_Snd (f : Nat) : Prop := ∀ (d m pc : Nat) (pl : px_L) (st : List Value) (I : px_HI) (J : px_HJ) (R : px_HR) (S : px_HS) (n q : Nat) (r : Option Value) (I' : px_HI) (J' : px_HJ) (R' : px_HR) (S' : px_HS) (n' q' : Nat), px_run f d m pc pl st (I, J, R, S, n, q) = some (r, I', J', R', S', n', q') → n ≤ n' ∧ q ≤ q' ∧
  ∀ (E : px_E) (p : Program) (l : Launch) (e : Env) (Rm : Room) (s : State) (mi : MethodId) (args : Array Value) (below : List Frame) (meth : Method) (c : Code) (Q : State → Prop) (n0 q0 : Nat), px_At E p s mi args meth c n0 m → d ≤ Rm.frames → 100 * d ≤ Rm.locals → n' ≤ n0 + Rm.cells → q' ≤ q0 + Rm.slots → px_Ret E p l e Rm s mi args below meth c Q n0 q0 m r I' J' R' S' n' q' → px_Go E p l e Rm s mi args below meth c Q n0 q0 m pc pl st I J R S n q
theorem px_met {f d k : Nat} {as : List Value} {E : px_E} {l : Launch} {I I' : px_HI} {J J' : px_HJ} {R R' : px_HR} {S S' : px_HS} {n n' q q' : Nat} {r : Option Value} (ih : px_Snd f) (hrun : px_run f d k 0 (px_en as (px_nl k)) [] (I, J, R, S, n, q) = some (r, I', J', R', S', n', q')) (hk1 : 1 ≤ k) (hk2 : k < px_nm) (has : (px_sl as).length ≤ px_nl k) :
    Met l (px_y k) (px_wk k) ({ frames := d, cells := n' - n, slots := q' - q, locals := 100 * d } : Room) (px_Pc E as I J R S n) (px_Qc E r I' J' R' S' n') (n' - n) (q' - q) (px_A E) := by
  have hmk := px_mall hk2
  unfold px_mok at hmk
  simp only [Bool.and_eq_true, Nat.ble_eq, decide_eq_true_eq] at hmk
  refine Met.ofW (cc := px_bc k) (maxL := px_nl k) (ret := px_rt k) hmk.1.1.1 rfl ?_
  intro p e s mi args below meth c s₁ B hml hv
  obtain ⟨rfl, hR, hK, hsz⟩ := hv
  have hts := atoms_spec (ws := px_wk k) B.pre
  have hA : px_At E p s mi (as.map (px_rn E)).toArray meth c n k := ⟨hk2, B.exec, B.bytes, B.returns, B.notSynchronized, hml, by rw [hmk.1.1.2]; exact findClass_of_methodNamed B.named, fun w hw => hts w (List.mem_cons_of_mem _ hw), (name_of_methodNamed B.named B.method).1, hK, hsz⟩
  obtain ⟨h1, h2, h3⟩ := ih d k 0 _ _ I J R S n q r I' J' R' S' n' q' hrun
  have hgo := h3 E p l e ({ frames := d, cells := n' - n, slots := q' - q, locals := 100 * d } : Room) s mi _ below meth c _ n q hA (Nat.le_refl d) (Nat.le_refl (100 * d)) (show n' ≤ n + (n' - n) by omega) (show q' ≤ q + (q' - q) by omega) (px_ret hA)
  rw [lg_entry_eq]
  exact hgo s.heap [] _ 0 0 (Nat.zero_add _) (Nat.zero_add _) hR (px_LR.entry E as has) va_S.rf
theorem px_sound : ∀ f, px_Snd f
  | 0 => fun d m pc pl st I J R S n q r I' J' R' S' n' q' h => by simp [px_run] at h
  | f + 1 => fun d m pc pl st I J R S n q r I' J' R' S' n' q' h => by
    have ih := px_sound f
    cases d with
    | zero => simp [px_run] at h
    | succ d =>
      unfold px_run at h
      split at h
      · cases h
      · rename_i i hi
        obtain ⟨hm, hD⟩ := px_dec hi
        obtain ⟨op, a, b, cc, nx, tb, v⟩ := i
        dsimp only at h
        split at h
        · split at h
          · cases h
          · rename_i k as rest hca
            split at h
            · rename_i hlo
              simp only [Bool.and_eq_true, Nat.ble_eq] at hlo
              split at h
              · cases h
              · rename_i r1 g1 h1
                obtain ⟨I1, J1, R1, S1, n1, q1⟩ := g1
                obtain ⟨u1, u2, u3⟩ := ih d k 0 _ _ I J R S n q r1 I1 J1 R1 S1 n1 q1 h1
                obtain ⟨v1, v2, v3⟩ := ih (d + 1) m _ _ _ I1 J1 R1 S1 n1 q1 r I' J' R' S' n' q' h
                obtain ⟨hk1, hk2⟩ := px_kb hD hca
                refine ⟨by omega, by omega, fun E p l e Rm s mi args below meth c Q n0 q0 hA hfr hl100 hr1 hr2 hret => ?_⟩
                exact px_call hA hD hca hlo.1 hfr hl100 u1 u2 (by omega) (px_met ih h1 hk1 hk2 hlo.2) (v3 E p l e Rm s mi args below meth c Q n0 q0 hA hfr hl100 hr1 hr2 hret)
            · cases h
        all_goals first
          | (split at h
             · cases h
             · rename_i r1 hre
               cases h
               refine ⟨Nat.le_refl _, Nat.le_refl _, fun E p l e Rm s mi args below meth c Q n0 q0 hA hfr hl100 hr1 hr2 hret => ?_⟩
               exact fun H locs ls cells slots hc hq hR hL hS => hret H locs ls pc cells slots _ _ hi hre hc hq hR hS)
          | (split at h
             · cases h
             · rename_i pc1 pl1 st1 g1 hst
               obtain ⟨I1, J1, R1, S1, n1, q1⟩ := g1
               obtain ⟨v1, v2, v3⟩ := ih (d + 1) m _ _ _ I1 J1 R1 S1 n1 q1 r I' J' R' S' n' q' h
               have hmo := px_st_mono hst
               refine ⟨by omega, by omega, fun E p l e Rm s mi args below meth c Q n0 q0 hA hfr hl100 hr1 hr2 hret => ?_⟩
               exact px_step hA hD hst (by omega) (by omega) (v3 E p l e Rm s mi args below meth c Q n0 q0 hA hfr hl100 hr1 hr2 hret))
