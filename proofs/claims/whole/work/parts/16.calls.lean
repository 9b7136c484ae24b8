/-! calls -/
def px_wk (k : Nat) : List Cond := Cond.code (px_y k) (px_bc k) (px_nl k) (px_rt k) :: px_B
theorem px_words {args : Array Value} {s : State} {k : Nat} (hts : ∀ w ∈ px_B, w.before args s = true) (h1 : 1 ≤ k) (h2 : k < px_nm) : ∀ w ∈ px_wk k, ∀ (a' : Array Value) (U : State), s.WarmedH U.vm → w.before a' U = true := by
  refine pay_in hts fun w hw => ?_
  rcases List.mem_cons.mp hw with rfl | hw
  · exact ⟨px_code h1 h2, px_B.good _ (px_code h1 h2)⟩
  · exact ⟨hw, px_B.good w hw⟩
theorem px_blind (E : px_E) (as : List Value) (I : px_HI) (J : px_HJ) (R : px_HR) (S : px_HS) (n : Nat) : FrameBlind (px_Pc E as I J R S n) := fun a U g mk h => ⟨h.1, h.2.1, h.2.2.1.same rfl rfl, h.2.2.2⟩
theorem px_cont {E : px_E} {p : Program} {l : Launch} {e : Env} {Rm : Room} {s : State} {mi : MethodId} {args : Array Value} {below : List Frame} {meth : Method} {c : Code} {Q : State → Prop} {H : Heap} {locs : List Loc} {ls : Array Slot} {cells slots mc ms pc n' : Nat} {st0 rest : List Value} {r : Option Value} {I' : px_HI} {J' : px_HJ} {R' : px_HR} {S' : px_HS} (hr : va_Run p l e Rm s mi args below meth c H locs cells slots mc ms (F0 mi pc ls st0) rest (px_Qa E r I' J' R' S' n') (px_A E)) (hS : va_S (px_A E) s.heap H locs)
    (kk : ∀ (H1 : Heap) (locs1 : List Loc), px_Rel E I' J' R' S' n' H1 → va_S (px_A E) s.heap H1 locs1 → W p l e Rm s mi args below meth c H1 locs1 (cells + mc) (slots + ms) Q (F0 mi (pc + 3) ls ((r.map (px_rn E)).toList ++ rest))) : W p l e Rm s mi args below meth c H locs cells slots Q (F0 mi pc ls st0) := by
  intro T hT X
  obtain ⟨v, st₀, t, T', L, h0, X', hL, e1, e2, ⟨hv, hp, hz, hk⟩, st⟩ := hr T hT X
  have hv : v = r.map (px_rn E) := Outcome.returned.inj hv
  subst hv
  rw [h0] at hz hk
  obtain ⟨t2, a1, b1⟩ := kk T'.heap (locs ++ L) (by rw [e1]; exact hp) ⟨Nat.le_trans hS.1 (by rw [e1]; exact hz), fun q h1 h2 => by rw [e1, hk q (Nat.lt_of_lt_of_le h1 hS.1) h2]; exact hS.2.1 q h1 h2, fun q hq => by
      rcases List.mem_append.mp hq with h | h
      · exact hS.2.2 q h
      · exact hL q h⟩ T' rfl X'
  exact ⟨t2, st t2 a1, b1⟩
/-- super.m(..), where the superclass may only inherit it -/
theorem px_runSU {p : Program} {l : Launch} {e : Env} {Rm : Room} {s : State} {mi : MethodId} {args : Array Value} {below : List Frame} {meth : Method} {c : Code} {H : Heap} {locs : List Loc} {cells slots : Nat} {x y : MethodName} {bytes cc : ByteArray} {maxL nL mc ms index : Nat} {ret : Option FieldType} {ws : List Cond} {rm : Room} {Pc : Array Value → State → Prop} {Qc : Array Value → State → Outcome → State → Prop} {free : Addr → Prop} {own C : String} {b : Addr} {As rest : List Value} {g : JFrame} {kC : Class} {cC : ClassId}
    (hx : p.tables.exec = Jvm.exec) (hb : c.code = cc) (hml : c.maxLocals = nL) (hown : s.vm.findClass own = some mi.cls) (hM : Met l y ws rm Pc Qc mc ms free)
    (hrc : rm.cells = mc) (hrs : rm.slots = ms) (hfr : rm.frames + 1 ≤ Rm.frames) (hlo : 8 + (maxL + 11) + rm.locals ≤ Rm.locals) (hws : ∀ w ∈ ws, ∀ (a' : Array Value) (U : State), s.WarmedH U.vm → w.before a' U = true) (hcw : Cond.code y bytes maxL ret ∈ ws)
    (hlink : (Cond.methodLink own index x).before args s = true) (hsame : (Cond.sameMethod x.cls y.cls x.name x.desc).before args s = true) (hsup : (Cond.superclass own x.cls).before args s = true) (hinst : (Cond.instanceMethod y).before args s = true) (hini : (Cond.initialized y.cls).before args s = true) (hcode : (Cond.code y bytes maxL ret).before args s = true) (hup : x.cls = y.cls ∨ (Cond.superclass x.cls y.cls).before args s = true) (hn1 : y.name = x.name) (hn2 : y.desc = x.desc) (hno : x.name ≠ "<init>")
    (hlen : ∀ sig, parseMethodDescriptor x.desc = some sig → As.length = sig.parameters.length) (hp : PreV s H C b Pc As) (hfc : s.vm.findClass C = some cC) (hkC : s.vm.classes[cC]? = some kC)
    (hg : g.method = mi) (hsize : g.locals.size = nL) (hstack : g.stack = As.reverse ++ .ref b :: rest) (hW : 2 * g.monitorRoom + (rest.map fun v => v.category).sum ≤ 8) (hdg : decode cc g.pc = .ok (.invokespecial index, 3)) (hf : cells + mc ≤ Rm.cells ∧ slots + ms ≤ Rm.slots) :
    va_Run p l e Rm s mi args below meth c H locs cells slots mc ms g rest (Qc (Value.ref b :: As).toArray) free := by
  have hK : Back l Rm p e below s args y 3 8 (PreOf Rm mc ms Pc) (PostOf Qc mc ms free) := back_of (bytes := bytes) (maxL := maxL) (ret := ret) hM hp.1 hrc hrs hfr hlo hws hcw (fun a' U hW => word_at hW (Or.inl (by first | rfl | simp [Cond.onTables, Cond.keeps, Cond.steady])) hini)
  obtain ⟨-, ⟨cellB, hcB, hoB, hclB⟩, hPc⟩ := hp
  cases hfc.symm.trans hclB
  intro T hT X
  obtain ⟨mk, methM, hnamed, hmethM, hstM, habM⟩ := Cond.instanceMethod_spec hinst
  obtain ⟨methM', cM, hmethM', -, -, -, -, -, -, hsigM⟩ := Cond.code_spec hnamed hcode
  cases hmethM.symm.trans hmethM'
  obtain ⟨ps, dk, kp, hps, hdk, hkp, hsuper, -, -, hnid⟩ := Cond.superclass_spec hown hsup
  have hny : (⟨y.cls, x.name, x.desc⟩ : MethodName) = y := by rw [← hn1, ← hn2]
  have hn : s.methodNamed? ⟨y.cls, x.name, x.desc⟩ = some mk := by rw [hny]; exact hnamed
  have hmk := findClass_of_methodNamed hnamed
  have hsub : s.vm.isSubclass ps mk.cls = true := by
    rcases hup with h | h
    · rw [h] at hps
      have hpm : ps = mk.cls := Option.some.inj (hps.symm.trans hmk)
      rw [hpm]
      simp [Vm.isSubclass, Vm.isSubclassAux]
    · obtain ⟨ps2, dk2, kp2, hps2, hdk2, hkp2, hsuper2, -, -, -⟩ := Cond.superclass_spec hps h
      have hpm : ps2 = mk.cls := Option.some.inj (hps2.symm.trans hmk)
      subst hpm
      have hlt : ps < s.vm.classes.size := (Array.getElem?_eq_some_iff.mp hdk2).1
      unfold Vm.isSubclass
      cases hz : s.vm.classes.size with
      | zero => rw [hz] at hlt; exact absurd hlt (Nat.not_lt_zero _)
      | succ z => simp [Vm.isSubclassAux, hdk2, hsuper2]
  obtain ⟨vm₁, X₁, hstep₁⟩ := X.invokespecialUp hx hown hlink hsame hn hmethM hstM habM hno hdk hnid hps hsuper hsub (a := b) (cell := cellB) (by rw [hT]; exact hcB)
    (fun z h => by rw [h] at hoB; cases hoB) hkC (g := g) hg (argsL := As) (rest := rest) (hlen _ (by rw [← hn2]; exact hsigM)) hstack (by rw [hb]; exact hdg)
  obtain ⟨v, ⟨U', l2, c2, s2⟩, X', ⟨g', mk', t, L, e1, e2, hq, h1, hL, h2, h3⟩, hsteps⟩ := hK mi meth c ⟨T.setVm vm₁, locs, cells, slots⟩ { g with stack := rest } (.invokespecial index) mk (Value.ref b :: As).toArray X₁ hg (hsize.trans hml.symm) (by rw [hb]; exact hdg) hW (X₁.named hnamed) ⟨hf.1, hf.2, hPc (T.setVm vm₁) hT X₁.warmed⟩
  dsimp only [Pt.U, Pt.locs, Pt.cells, Pt.slots] at X' e1 e2 h1 h2 h3 hsteps
  subst h1; subst h2; subst h3
  exact ⟨v, (T.setVm vm₁).calling g' mk' (Value.ref b :: As).toArray, t, U', L, hT, X', hL, e1, e2, hq, fun target h => hstep₁ _ (by rw [doInvoke_state]; exact hsteps.trans h)⟩
theorem px_cskd : px_cs.all (fun e => Nat.beq e.2.2.2.2.2.1 0 || Nat.beq e.2.2.2.2.2.1 3 || Nat.beq e.2.2.2.2.2.1 4 || (Nat.ble 10 e.2.2.2.1 && Nat.ble e.2.2.2.1 22) || (Nat.beq e.2.2.2.1 150 && Nat.beq e.2.2.2.2.2.1 1)) = true := by decide +kernel
/-- what the row of a call says -/
theorem px_cqs {m a b c : Nat} {z : Nat × Nat} (h : px_cq m a b c z = true) : ∃ (kd ty : Nat) (x : MethodName), (kd = z.1 ∨ ty = 3 ∨ ty = 4) ∧ 1 ≤ z.2 ∧ z.2 < px_nm ∧ b = (match ty with | 0 => 0 | 1 => 1 | 2 => 1 | _ => 2) ∧ (∀ w ∈ px_cw (px_on m) c kd z.2 ty x, w ∈ px_B) ∧ px_cx (px_on m) c kd z.2 ty x = true ∧ (x.cls ≠ "java/lang/invoke/MethodHandle" ∧ x.cls ≠ "java/lang/invoke/VarHandle" ∧ (px_y z.2).cls ≠ "java/lang/invoke/MethodHandle" ∧ (px_y z.2).cls ≠ "java/lang/invoke/VarHandle") ∧ (parseMethodDescriptor x.desc).map (fun d => d.parameters.length) = some a ∧
    (ty = 0 ∨ ty = 3 ∨ ty = 4 ∨ (10 ≤ kd ∧ kd ≤ 22) ∨ (kd = 150 ∧ ty = 1)) := by
  unfold px_cq at h
  simp only [List.any_eq_true, Bool.and_eq_true, Bool.or_eq_true, Nat.beq_eq, decide_eq_true_eq] at h
  obtain ⟨⟨o, c1, b1, kd, cal, ty, x, ps⟩, he, ⟨⟨⟨⟨h1, h2⟩, h3⟩, h4⟩, h5⟩, h6⟩ := h
  have hk := List.all_eq_true.mp px_csok _ he
  have hd := List.all_eq_true.mp px_cskd _ he
  unfold px_cok at hk
  dsimp only at h1 h2 h3 h4 h5 h6 hk hd
  simp only [Bool.and_eq_true, Bool.or_eq_true, Nat.beq_eq, Nat.ble_eq, Nat.blt_eq, decide_eq_true_eq] at hk hd
  subst h1; subst h2; subst h3; subst h5
  obtain ⟨⟨⟨⟨⟨k1, k2⟩, k3⟩, k4⟩, k5⟩, k6⟩ := hk
  refine ⟨kd, ty, x, by rcases h4 with (q | q) | q; exact Or.inl q; exact Or.inr (Or.inl q); exact Or.inr (Or.inr q), k4, k5, k6, px_has.mem k1, k2, k3, h6, ?_⟩
  omega
theorem px_kb {m pc k a b cc nx : Nat} {tb : List (Nat × Nat)} {v : Value} {st as rest : List Value} {S : px_HS} (hD : px_D m pc (47, a, b, cc, nx, tb, v)) (h : px_ca (47, a, b, cc, nx, tb, v) st S = some (k, as, rest)) : 1 ≤ k ∧ k < px_nm := by
  obtain ⟨-, -, hcc⟩ := hD
  simp only [px_cc, Bool.and_eq_true] at hcc
  simp only [px_ca] at h
  split at h
  · split at h
    · split at h
      · rename_i z t
        cases h
        obtain ⟨_, _, _, _, h1, h2, _⟩ := px_cqs (List.all_eq_true.mp hcc.1 z List.mem_cons_self)
        exact ⟨h1, h2⟩
      · cases h
    · split at h
      · split at h
        · rename_i hk
          cases h
          obtain ⟨_, _, _, _, h1, h2, _⟩ := px_cqs (List.all_eq_true.mp hcc.1 _ (px_lk2 hk))
          exact ⟨h1, h2⟩
        · cases h
      · cases h
  · cases h
theorem px_recv {E : px_E} {s : State} {I : px_HI} {J : px_HJ} {R : px_HR} {S : px_HS} {n o : Nat} {H : Heap} {locs : List Loc} (hK : px_K E s) (hR : px_Rel E I J R S n H) (hS : va_S (px_A E) s.heap H locs) (h : (10 ≤ (S o).1 ∧ (S o).1 ≤ 22) ∨ (S o).1 = 150) : ∃ cell : Cell, H[px_al E o]? = some cell ∧ cell.vm.isStatics = false ∧ s.vm.findClass (px_kn (S o).1) = some cell.cls := by
  rcases h with ⟨h1, h2⟩ | h
  · have ho := px_lt hR hK (px_rwo h1 h2)
    have he := px_wsg (E := E) (I := I) (J := J) (R := R) (S := S) ho
    rw [px_ce_o rfl h1 h2] at he
    have hll : (S o).1 - 10 < px_cl.length := by rw [px_cllen]; omega
    have hr1 : px_cl[(S o).1 - 10]? = some px_cl[(S o).1 - 10] := List.getElem?_eq_getElem hll
    have hrc := va_recv hK.1 hR.1 hr1 he
    rw [px_cln hr1] at hrc
    have hkn : px_kn (S o).1 = px_cn ((S o).1 - 10) := by
      unfold px_kn
      rw [show Nat.beq (S o).1 150 = false from Bool.eq_false_iff.mpr (fun z => by have := Nat.beq_eq.mp z; omega)]
      rfl
    rw [hkn, px_al_lt hR ho]
    exact hrc
  · obtain ⟨g1, g2, g3, g4⟩ := px_far2 hR h rfl (by decide)
    have hst := (hK.2.2.2.2.2.2.2.2.2.1 o (by rw [← g2]; exact h)).1
    obtain ⟨cell, h1, h2, h3, -⟩ := hst.kept hS.2.1
    rw [px_al_ge g1, h]
    exact ⟨cell, h1, h2, h3⟩
theorem px_tail {E : px_E} (r : Option Value) (rest : List Value) : (r.toList ++ rest).map (px_rn E) = (r.map (px_rn E)).toList ++ rest.map (px_rn E) := by cases r <;> rfl
theorem px_args {E : px_E} (st : List Value) (a : Nat) : (((st.take a).reverse).map (px_rn E)).reverse ++ (st.drop a).map (px_rn E) = st.map (px_rn E) := by
  rw [List.map_reverse, List.reverse_reverse, ← List.map_append, List.take_append_drop]
