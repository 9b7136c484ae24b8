/-! the real machine follows a run of the pure one -/
theorem px_st_mono {i : px_I} {pl pl' : px_L} {st st' : List Value} {I I' : px_HI} {J J' : px_HJ} {R R' : px_HR} {S S' : px_HS} {n n' q q' pc' : Nat} (h : px_st i pl st I J R S n q = some (pc', pl', st', I', J', R', S', n', q')) : n ≤ n' ∧ q ≤ q' := by
  obtain ⟨op, a, b, cc, nx, tb, v⟩ := i
  unfold px_st at h
  dsimp only at h
  split at h
  all_goals repeat' split at h
  all_goals first
    | (cases h; done)
    | (simp only [Option.some.injEq, Prod.mk.injEq] at h; obtain ⟨-, -, -, -, -, -, -, rfl, rfl⟩ := h; omega)
section PXW
variable {E : px_E} {p : Program} {l : Launch} {e : Env} {Rm : Room} {s : State} {mi : MethodId} {args : Array Value} {below : List Frame} {meth : Method} {c : Code} {Q : State → Prop} {n0 q0 m pc : Nat} {pl pl' : px_L} {st st' : List Value} {I I' : px_HI} {J J' : px_HJ} {R R' : px_HR} {S S' : px_HS} {n n' q q' pc' : Nat} {i : px_I}
theorem px_step (hA : px_At E p s mi args meth c n0 m) (hD : px_D m pc i) (hs : px_st i pl st I J R S n q = some (pc', pl', st', I', J', R', S', n', q')) (hroom : n' ≤ n0 + Rm.cells ∧ q' ≤ q0 + Rm.slots) (hfr : 1 ≤ Rm.frames ∧ 100 ≤ Rm.locals) (hg : px_Go E p l e Rm s mi args below meth c Q n0 q0 m pc' pl' st' I' J' R' S' n' q') : px_Go E p l e Rm s mi args below meth c Q n0 q0 m pc pl st I J R S n q := by
  obtain ⟨op, a, b, cc, nx, tb, v⟩ := i
  have hs0 := hs
  unfold px_st at hs
  dsimp only at hs
  split at hs
  · exact px_s0 hA hD hs0 hroom hfr hg
  · exact px_s1 hA hD hs0 hroom hfr hg
  · exact px_s2 hA hD hs0 hroom hfr hg
  · exact px_s3 hA hD hs0 hroom hfr hg
  · exact px_s4 hA hD hs0 hroom hfr hg
  · exact px_s5 hA hD hs0 hroom hfr hg
  · exact px_s6 hA hD hs0 hroom hfr hg
  · exact px_s7 hA hD hs0 hroom hfr hg
  · exact px_s8 hA hD hs0 hroom hfr hg
  · exact px_s9 hA hD hs0 hroom hfr hg
  · exact px_s10 hA hD hs0 hroom hfr hg
  · exact px_s11 hA hD hs0 hroom hfr hg
  · exact px_s12 hA hD hs0 hroom hfr hg
  · exact px_s13 hA hD hs0 hroom hfr hg
  · exact px_s14 hA hD hs0 hroom hfr hg
  · exact px_s15 hA hD hs0 hroom hfr hg
  · exact px_s16 hA hD hs0 hroom hfr hg
  · exact px_s17 hA hD hs0 hroom hfr hg
  · exact px_s18 hA hD hs0 hroom hfr hg
  · exact px_s19 hA hD hs0 hroom hfr hg
  · exact px_s20 hA hD hs0 hroom hfr hg
  · exact px_s25 hA hD hs0 hroom hfr hg
  · exact px_s26 hA hD hs0 hroom hfr hg
  · exact px_s27 hA hD hs0 hroom hfr hg
  · exact px_s28 hA hD hs0 hroom hfr hg
  · exact px_s29 hA hD hs0 hroom hfr hg
  · exact px_s30 hA hD hs0 hroom hfr hg
  · exact px_s31 hA hD hs0 hroom hfr hg
  · exact px_s32 hA hD hs0 hroom hfr hg
  · exact px_s33 hA hD hs0 hroom hfr hg
  · exact px_s34 hA hD hs0 hroom hfr hg
  · exact px_s35 hA hD hs0 hroom hfr hg
  · exact px_s36 hA hD hs0 hroom hfr hg
  · exact px_s37 hA hD hs0 hroom hfr hg
  · exact px_s38 hA hD hs0 hroom hfr hg
  · exact px_s39 hA hD hs0 hroom hfr hg
  · exact px_s40 hA hD hs0 hroom hfr hg
  · exact px_s41 hA hD hs0 hroom hfr hg
  · exact px_s42 hA hD hs0 hroom hfr hg
  · exact px_s43 hA hD hs0 hroom hfr hg
  · exact px_s44 hA hD hs0 hroom hfr hg
  · exact px_s45 hA hD hs0 hroom hfr hg
  · exact px_s46 hA hD hs0 hroom hfr hg
  · exact px_s48 hA hD hs0 hroom hfr hg
  · exact px_s49 hA hD hs0 hroom hfr hg
  · exact px_s50 hA hD hs0 hroom hfr hg
  · cases hs
end PXW
/-! the end of a method -/
def px_Ret (E : px_E) (p : Program) (l : Launch) (e : Env) (Rm : Room) (s : State) (mi : MethodId) (args : Array Value) (below : List Frame) (meth : Method) (c : Code) (Q : State → Prop) (n0 q0 m : Nat) (r : Option Value) (I' : px_HI) (J' : px_HJ) (R' : px_HR) (S' : px_HS) (n' q' : Nat) : Prop :=
  ∀ (H : Heap) (locs : List Loc) (ls : Array Slot) (pc1 cells slots : Nat) (i : px_I) (st1 : List Value), px_T m pc1 = some i → px_re i st1 = some r → cells + n0 = n' → slots + q0 = q' → px_Rel E I' J' R' S' n' H → va_S (px_A E) s.heap H locs → W p l e Rm s mi args below meth c H locs cells slots Q (F0 mi pc1 ls (st1.map (px_rn E)))
def px_Pc (E : px_E) (as : List Value) (I : px_HI) (J : px_HJ) (R : px_HR) (S : px_HS) (n : Nat) : Array Value → State → Prop := fun a U => a = (as.map (px_rn E)).toArray ∧ px_Rel E I J R S n U.heap ∧ px_K E U ∧ U.heap.size = E.1 + n
def px_Qa (E : px_E) (r : Option Value) (I : px_HI) (J : px_HJ) (R : px_HR) (S : px_HS) (n : Nat) : State → Outcome → State → Prop := fun st o t => o = .returned (r.map (px_rn E)) ∧ px_Rel E I J R S n t.heap ∧ va_F (px_A E) st t
def px_Qc (E : px_E) (r : Option Value) (I : px_HI) (J : px_HJ) (R : px_HR) (S : px_HS) (n : Nat) : Array Value → State → Outcome → State → Prop := fun _ => px_Qa E r I J R S n
theorem px_ret {E : px_E} {p : Program} {l : Launch} {e : Env} {Rm : Room} {s : State} {mi : MethodId} {args : Array Value} {below : List Frame} {meth : Method} {c : Code} {n0 q0 m : Nat} {r : Option Value} {I' : px_HI} {J' : px_HJ} {R' : px_HR} {S' : px_HS} {n' q' : Nat} (hA : px_At E p s mi args meth c n0 m) :
    px_Ret E p l e Rm s mi args below meth c (MQ below (px_Qc E r I' J' R' S' n') args s (n' - n0) (q' - q0) (px_A E)) n0 q0 m r I' J' R' S' n' q' := by
  intro H locs ls pc1 cells slots i st1 hT hre hc hq hR hS
  obtain ⟨hm, hx, hb, hr, hlk, hml, hown, hts, hname, hK, hbs⟩ := hA
  obtain ⟨-, hd, -, hcc⟩ := px_dec hT
  obtain ⟨op, a, b, cc, nx, tb, v⟩ := i
  rw [show n' - n0 = cells by omega, show q' - q0 = slots by omega]
  have hpost : ∀ (w : Option Value), r = w → ∀ t : State, t.heap = H → s.WarmedH t.vm → px_Qc E r I' J' R' S' n' args s (.returned (w.map (px_rn E))) t := fun w hw t ht _ => ⟨by rw [hw], by rw [ht]; exact hR, hS.F ht⟩
  unfold px_re at hre
  dsimp only at hre
  split at hre
  · split at hre
    · rename_i x
      split at hre
      · rename_i hf
        cases hre
        simp only [px_ins] at hd
        simp only [px_cc] at hcc
        split at hcc
        · exact W.iret hx hb (hr.trans (of_decide_eq_true hcc)) (hpost _ rfl) hS.2.2 hd hlk
        · exact W.zret (ty := .boolean) hx hb (hr.trans (of_decide_eq_true hcc)) (px_nbi (of_decide_eq_true hf)).1 (hpost _ rfl) hS.2.2 hd hlk
        · exact W.zret (ty := .char) hx hb (hr.trans (of_decide_eq_true hcc)) (congrArg Value.int (of_decide_eq_true hf)) (hpost _ rfl) hS.2.2 hd hlk
        · exact W.zret (ty := .byte) hx hb (hr.trans (of_decide_eq_true hcc)) (congrArg Value.int (of_decide_eq_true hf)) (hpost _ rfl) hS.2.2 hd hlk
        · cases hcc
      · cases hre
    · cases hre
  · split at hre
    · cases hre
      simp only [px_ins] at hd
      simp only [px_cc] at hcc
      exact W.lret hx hb (hr.trans (of_decide_eq_true hcc)) (hpost _ rfl) hS.2.2 hd hlk
    · cases hre
  · simp only [px_ins] at hd
    simp only [px_cc] at hcc
    have hrt : ∃ rt, px_rt m = some rt ∧ ((∃ n, rt = .object n) ∨ ∃ t, rt = .array t) := by
      split at hcc
      · rename_i z hz; exact ⟨_, hz, Or.inl ⟨_, rfl⟩⟩
      · rename_i z hz; exact ⟨_, hz, Or.inr ⟨_, rfl⟩⟩
      · cases hcc
    obtain ⟨rt, hrt, hrk⟩ := hrt
    split at hre
    · cases hre
      exact W.aret hx hb (hr.trans hrt) hrk (Or.inr ⟨_, rfl⟩) (hpost _ rfl) hS.2.2 hd hlk
    · cases hre
      exact W.aret hx hb (hr.trans hrt) hrk (Or.inl rfl) (hpost _ rfl) hS.2.2 hd hlk
    · cases hre
  · split at hre
    · cases hre
      simp only [px_ins] at hd
      simp only [px_cc] at hcc
      exact W.vret hx hb (hr.trans (of_decide_eq_true hcc)) (hpost _ rfl) hS.2.2 hd hlk
    · cases hre
  · cases hre
/-! the start of a method -/
theorem px_sl_len (E : px_E) : ∀ as : List Value, (lg_sl (as.map (px_rn E))).length = (px_sl as).length
  | [] => rfl
  | v :: vs => by
    have ih := px_sl_len E vs
    have e : lg_sl ((v :: vs).map (px_rn E)) = (if (px_rn E v).category = 2 then [Slot.val (px_rn E v), .second] else [.val (px_rn E v)]) ++ lg_sl (vs.map (px_rn E)) := rfl
    rw [e, List.length_append, ih, px_rn_cat]
    cases v <;> simp [px_sl, Value.category] <;> omega
theorem px_sl_args (E : px_E) : ∀ (as : List Value) (j i : Nat) (v : Value), (px_sl as)[i]? = some (some v) → (j + i, px_rn E v) ∈ lv_args j (as.map (px_rn E))
  | [], j, i, v, h => by simp [px_sl] at h
  | w :: vs, j, i, v, h => by
    have ih := px_sl_args E vs
    have one : w.category = 1 → px_sl (w :: vs) = some w :: px_sl vs → (j + i, px_rn E v) ∈ lv_args j ((w :: vs).map (px_rn E)) := by
      intro hc e
      rw [e] at h
      rw [List.map_cons]
      unfold lv_args
      rw [px_rn_cat, hc, if_neg (by decide)]
      cases i with
      | zero =>
        rw [List.getElem?_cons_zero] at h
        cases h
        exact List.mem_cons_self
      | succ i =>
        rw [List.getElem?_cons_succ] at h
        have := ih (j + 1) i v h
        rw [show j + (i + 1) = j + 1 + i by omega]
        exact List.mem_cons_of_mem _ this
    cases w with
    | long x =>
      have e : px_sl (.long x :: vs) = some (.long x) :: none :: px_sl vs := rfl
      rw [e] at h
      rw [List.map_cons]
      unfold lv_args
      rw [px_rn_cat, show (Value.long x).category = 2 from rfl, if_pos rfl]
      match i, h with
      | 0, h =>
        rw [List.getElem?_cons_zero] at h
        cases h
        exact List.mem_cons_self
      | 1, h => rw [List.getElem?_cons_succ, List.getElem?_cons_zero] at h; cases h
      | i + 2, h =>
        rw [List.getElem?_cons_succ, List.getElem?_cons_succ] at h
        have := ih (j + 2) i v h
        rw [show j + (i + 2) = j + 2 + i by omega]
        exact List.mem_cons_of_mem _ this
    | double x =>
      have e : px_sl (.double x :: vs) = some (.double x) :: none :: px_sl vs := rfl
      rw [e] at h
      rw [List.map_cons]
      unfold lv_args
      rw [px_rn_cat, show (Value.double x).category = 2 from rfl, if_pos rfl]
      match i, h with
      | 0, h =>
        rw [List.getElem?_cons_zero] at h
        cases h
        exact List.mem_cons_self
      | 1, h => rw [List.getElem?_cons_succ, List.getElem?_cons_zero] at h; cases h
      | i + 2, h =>
        rw [List.getElem?_cons_succ, List.getElem?_cons_succ] at h
        have := ih (j + 2) i v h
        rw [show j + (i + 2) = j + 2 + i by omega]
        exact List.mem_cons_of_mem _ this
    | int x => exact one rfl rfl
    | float x => exact one rfl rfl
    | null => exact one rfl rfl
    | ref x => exact one rfl rfl
    | retAddr x => exact one rfl rfl
theorem px_LR.entry (E : px_E) (as : List Value) {k : Nat} (h : (px_sl as).length ≤ k) : px_LR E ((lg_sl (as.map (px_rn E)) ++ List.replicate (k - (lg_sl (as.map (px_rn E))).length) Slot.unset).toArray) k (px_en as k) := by
  have h1 := lv_entry (as.map (px_rn E)) (n := k) (by rw [px_sl_len]; exact h)
  refine ⟨h1.1, ?_, h1.2.1, fun i v hi => ?_⟩
  · unfold px_en
    rw [List.length_append, List.length_replicate]
    omega
  · have h2 : (px_sl as)[i]? = some (some v) := by
      unfold px_en at hi
      by_cases hl : i < (px_sl as).length
      · rw [List.getElem?_append_left hl] at hi
        exact hi
      · rw [List.getElem?_append_right (by omega)] at hi
        have := List.eq_of_mem_replicate (List.mem_of_getElem? hi)
        cases this
    have h3 := px_sl_args E as 0 i v h2
    rw [Nat.zero_add] at h3
    exact h1.2.2 _ h3
