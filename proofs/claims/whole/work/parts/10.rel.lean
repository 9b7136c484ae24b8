/-! the real heap beside the pure one -/
abbrev px_E : Type := Nat × (Nat → Nat) × va_G × (Nat → ClassId) × px_HI × px_HR × px_HS
def px_al (E : px_E) (a : Nat) : Nat := if a < 1000000 then E.1 + a else E.2.1 a
def px_rn (E : px_E) (v : Value) : Value := match v with
  | .ref a => .ref (px_al E a)
  | v => v
def px_A (E : px_E) : Nat → Prop := fun q => E.1 ≤ q
def px_N (ci : Nat) : Nat := match px_cl[ci]? with
  | some r => r.2.2
  | none => 0
def px_fv (E : px_E) (I : px_HI) (J : px_HJ) (R : px_HR) (a ci j : Nat) : Value := match px_ft (px_ty ci j) with
  | 0 => .int (I a j)
  | 1 => .long (J a j)
  | _ => va_rf ((R a j).map (px_al E))
def px_ce (E : px_E) (I : px_HI) (J : px_HJ) (R : px_HR) (S : px_HS) (a : Nat) : va_E :=
  if (S a).1 = 100 then .inl (E.2.2.2.1 0, (S a).2, .inl (I a))
  else if (S a).1 = 101 then .inl (E.2.2.2.1 1, (S a).2, .inr (.inl (J a)))
  else if (S a).1 = 102 then .inl (E.2.2.2.1 2, (S a).2, .inl (I a))
  else if 104 ≤ (S a).1 then .inl (E.2.2.2.1 ((S a).1 - 100), (S a).2, .inr (.inr (.inr (.inr (fun j => (R a j).map (px_al E))))))
  else .inr ((S a).1 - 10, (List.range (px_N ((S a).1 - 10))).map (px_fv E I J R a ((S a).1 - 10)))
def px_ws (E : px_E) (I : px_HI) (J : px_HJ) (R : px_HR) (S : px_HS) (n : Nat) : va_W := (List.range n).map (fun a => (E.1 + a, px_ce E I J R S a))
def px_tys (E : px_E) : List (ClassId × FieldType) := [(E.2.2.2.1 0, .int), (E.2.2.2.1 1, .long), (E.2.2.2.1 2, .boolean), (E.2.2.2.1 3, .byte), (E.2.2.2.1 4, .object "AtTheDoor$Caller"), (E.2.2.2.1 5, .object "AtTheDoor$Text"), (E.2.2.2.1 6, .object "AtTheDoor$Sheet")]
def px_rw (k : Nat) : Bool := (Nat.ble 10 k && Nat.ble k 22) || Nat.beq k 100 || Nat.beq k 101 || Nat.beq k 102 || Nat.beq k 104 || Nat.beq k 105 || Nat.beq k 106
def px_Rel (E : px_E) (I : px_HI) (J : px_HJ) (R : px_HR) (S : px_HS) (n : Nat) (H : Heap) : Prop :=
  va_P E.2.2.1 px_cl (px_ws E I J R S n) H ∧ n ≤ 1000000 ∧ (∀ a, a < n → px_rw (S a).1 = true) ∧ (∀ a, n ≤ a → a < 1000000 → (S a).1 = 0) ∧ ∀ a, 1000000 ≤ a → S a = E.2.2.2.2.2.2 a ∧ I a = E.2.2.2.2.1 a ∧ R a = E.2.2.2.2.2.1 a
def px_K (E : px_E) (U : State) : Prop :=
  va_K E.2.2.1 px_cl (px_tys E) U ∧ (∀ q ∈ px_nest, va_Nw (.methodLinkNest q.1 q.2.1 q.2.2.1 q.2.2.2) U) ∧ (∀ q ∈ px_cast, va_Nw (.castable q.1 q.2) U) ∧ (∀ q ∈ px_ncast, va_Nc q.1 q.2 U) ∧ (va_AO "AtTheDoor$Caller" U ∧ va_AO "AtTheDoor$Text" U ∧ va_AO "AtTheDoor$Sheet" U) ∧
  (∀ k e, px_se[k]? = some e → vk_R e.2.2.1 e.2.1 e.2.2.2 (E.2.1 (1000010 + k)) U) ∧
  (va_Z (px_gn 0).1 (px_gn 0).2.1 (px_gn 0).2.2 (.int 1) (px_A E) U U.heap ∧ va_Z (px_gn 1).1 (px_gn 1).2.1 (px_gn 1).2.2 (.ref (E.2.1 1000001)) (px_A E) U U.heap ∧ va_Z (px_gn 2).1 (px_gn 2).2.1 (px_gn 2).2.2 (px_rn E (px_rv (E.2.2.2.2.2.1 1000002 0))) (px_A E) U U.heap) ∧
  (∀ a, (E.2.2.2.2.2.2 a).1 = 200 → va_T .int (E.2.1 a) (E.2.2.2.2.2.2 a).2 (fun j => .int (E.2.2.2.2.1 a j)) (px_A E) U U.heap) ∧
  (∀ a, (E.2.2.2.2.2.2 a).1 = 203 → va_T .byte (E.2.1 a) (E.2.2.2.2.2.2 a).2 (fun j => .int (E.2.2.2.2.1 a j)) (px_A E) U U.heap) ∧
  (∀ a, (E.2.2.2.2.2.2 a).1 = 150 → va_O "java/lang/String" (E.2.1 a) (px_A E) U U.heap ∧ va_OF "java/lang/String" "coder" "B" (.int (E.2.2.2.2.1 a 1)) (E.2.1 a) (px_A E) U U.heap ∧ va_OF "java/lang/String" "value" "[B" (px_rn E (px_rv (E.2.2.2.2.2.1 a 0))) (E.2.1 a) (px_A E) U U.heap) ∧
  (∀ a, 1000000 ≤ a → (E.2.2.2.2.2.2 a).1 = 0 ∨ (E.2.2.2.2.2.2 a).1 = 150 ∨ (E.2.2.2.2.2.2 a).1 = 200 ∨ (E.2.2.2.2.2.2 a).1 = 203)
theorem px_K.step {E : px_E} {s U : State} (h : px_K E s) (hW : s.WarmedH U.vm) (hk : ∀ q : Nat, q < s.heap.size → ¬ px_A E q → U.heap[q]? = s.heap[q]?) : px_K E U := by
  obtain ⟨h1, h2, h3, h4, ⟨h5, h6, h7⟩, h8, ⟨h9, h10, h11⟩, h12, h13, h14, h15⟩ := h
  have ha := hW.alike
  refine ⟨h1.moved ha, fun q hq => (h2 q hq).warmM hW, fun q hq => (h3 q hq).warmC hW, fun q hq => (h4 q hq).moved ha, ⟨h5.moved ha, h6.moved ha, h7.moved ha⟩, fun k e hk => (h8 k e hk).warm hW, ⟨(h9.moved ha).kept hk, (h10.moved ha).kept hk, (h11.moved ha).kept hk⟩, fun a q => ((h12 a q).moved ha).kept hk, fun a q => ((h13 a q).moved ha).kept hk, fun a q => ⟨((h14 a q).1.moved ha).kept hk, ((h14 a q).2.1.moved ha).kept hk, ((h14 a q).2.2.moved ha).kept hk⟩, h15⟩
theorem px_K.same {E : px_E} {s U : State} (h : px_K E s) (hv : U.vm = s.vm) (hh : U.heap = s.heap) : px_K E U := by
  obtain ⟨h1, h2, h3, h4, ⟨h5, h6, h7⟩, h8, ⟨h9, h10, h11⟩, h12, h13, h14, h15⟩ := h
  have ha : s.vm.Alike U.vm := by rw [hv]; exact Vm.Alike.refl _
  have hk : ∀ q : Nat, q < s.heap.size → ¬ px_A E q → U.heap[q]? = s.heap[q]? := fun q _ _ => by rw [hh]
  refine ⟨h1.moved ha, fun q hq => (h2 q hq).same rfl hv.symm, fun q hq => (h3 q hq).same rfl hv.symm, fun q hq => (h4 q hq).moved ha, ⟨h5.moved ha, h6.moved ha, h7.moved ha⟩, fun k e hk => (h8 k e hk).same hv, ⟨(h9.moved ha).kept hk, (h10.moved ha).kept hk, (h11.moved ha).kept hk⟩, fun a q => ((h12 a q).moved ha).kept hk, fun a q => ((h13 a q).moved ha).kept hk, fun a q => ⟨((h14 a q).1.moved ha).kept hk, ((h14 a q).2.1.moved ha).kept hk, ((h14 a q).2.2.moved ha).kept hk⟩, h15⟩
/-- what a method's frame says -/
def px_At (E : px_E) (p : Program) (s : State) (mi : MethodId) (args : Array Value) (meth : Method) (c : Code) (n0 m : Nat) : Prop :=
  m < px_nm ∧ p.tables.exec = Jvm.exec ∧ c.code = px_bc m ∧ meth.sig.returnType = px_rt m ∧ meth.locks = false ∧ c.maxLocals = px_nl m ∧ s.vm.findClass (px_cn (px_on m)) = some mi.cls ∧ (∀ w ∈ px_B, w.before args s = true) ∧ meth.name = (px_y m).name ∧ px_K E s ∧ s.heap.size = E.1 + n0
def px_LR (E : px_E) (ls : Array Slot) (nL : Nat) (pl : px_L) : Prop := ls.size = nL ∧ pl.length = nL ∧ lv_wf ls ∧ ∀ (i : Nat) (v : Value), pl[i]? = some (some v) → ls[i]? = some (.val (px_rn E v))
def px_Go (E : px_E) (p : Program) (l : Launch) (e : Env) (Rm : Room) (s : State) (mi : MethodId) (args : Array Value) (below : List Frame) (meth : Method) (c : Code) (Q : State → Prop) (n0 q0 m pc : Nat) (pl : px_L) (st : List Value) (I : px_HI) (J : px_HJ) (R : px_HR) (S : px_HS) (n q : Nat) : Prop :=
  ∀ (H : Heap) (locs : List Loc) (ls : Array Slot) (cells slots : Nat), cells + n0 = n → slots + q0 = q → px_Rel E I J R S n H → px_LR E ls (px_nl m) pl → va_S (px_A E) s.heap H locs → W p l e Rm s mi args below meth c H locs cells slots Q (F0 mi pc ls (st.map (px_rn E)))
def px_D (m pc : Nat) (i : px_I) : Prop := decode (px_bc m) pc = .ok (px_ins pc i) ∧ i.2.2.2.2.1 = pc + (px_ins pc i).2 ∧ px_cc m i = true
theorem px_dec {m pc : Nat} {i : px_I} (h : px_T m pc = some i) : m < px_nm ∧ px_D m pc i := by
  have h0 := h
  unfold px_T at h
  cases hc : (Nat.blt m px_nm && Nat.blt pc (px_len m)) with
  | false => rw [hc] at h; cases h
  | true =>
    simp only [Bool.and_eq_true, Nat.blt_eq] at hc
    have h1 := px_eall hc.1 pc i hc.2 h0
    unfold px_chk at h1
    simp only [Bool.and_eq_true, decide_eq_true_eq, Nat.beq_eq_true_eq] at h1
    exact ⟨hc.1, h1.1.1, Nat.eq_of_beq_eq_true h1.1.2, h1.2⟩
/-! locals -/
theorem px_rn_cat (E : px_E) (v : Value) : (px_rn E v).category = v.category := by cases v <;> rfl
def px_as (E : px_E) (pl : px_L) : List (Nat × Value) := (List.range pl.length).filterMap (fun i => match pl[i]? with
  | some (some v) => some (i, px_rn E v)
  | _ => none)
theorem px_as_mem {E : px_E} {pl : px_L} {i : Nat} {v : Value} (h : pl[i]? = some (some v)) : (i, px_rn E v) ∈ px_as E pl := by
  refine List.mem_filterMap.mpr ⟨i, List.mem_range.mpr (List.getElem?_eq_some_iff.mp h).1, ?_⟩
  rw [h]
theorem px_as_has {E : px_E} {ls : Array Slot} {nL : Nat} {pl : px_L} (h : px_LR E ls nL pl) : lv_has ls nL (px_as E pl) := by
  refine ⟨h.1, h.2.2.1, fun q hq => ?_⟩
  obtain ⟨i, -, hi⟩ := List.mem_filterMap.mp hq
  split at hi
  · rename_i v hv
    cases hi
    exact h.2.2.2 i v hv
  · cases hi
theorem px_ok_lt {pl : px_L} {a : Nat} (h : px_ok pl a = true) : a < pl.length := by
  unfold px_ok at h
  simp only [Bool.and_eq_true, Nat.blt_eq] at h
  exact h.1
theorem px_ok_c2 {pl : px_L} {j : Nat} {w : Value} (h : px_ok pl (j + 1) = true) (hj : pl[j]? = some (some w)) : w.category ≠ 2 := by
  unfold px_ok at h
  simp only [Bool.and_eq_true, hj] at h
  cases w <;> simp [px_c2, Value.category] at h ⊢
theorem px_LR.st1 {E : px_E} {ls ls' : Array Slot} {nL : Nat} {pl : px_L} {i : Nat} {v : Value} (h : px_LR E ls nL pl) (ho : px_ok pl i = true)
    (h' : lv_has ls' nL ((i, px_rn E v) :: (px_as E pl).filter (fun q => !(q.1 == i) && !(q.1 + 1 == i && q.2.category == 2)))) : px_LR E ls' nL (pl.set i (some v)) := by
  refine ⟨h'.1, by rw [List.length_set]; exact h.2.1, h'.2.1, fun j w hj => ?_⟩
  have hi := px_ok_lt ho
  by_cases hji : j = i
  · subst hji
    rw [List.getElem?_set_self hi] at hj
    cases hj
    exact h'.2.2 _ List.mem_cons_self
  · rw [List.getElem?_set_ne (Ne.symm hji)] at hj
    refine h'.2.2 (j, px_rn E w) (List.mem_cons_of_mem _ (List.mem_filter.mpr ⟨px_as_mem hj, ?_⟩))
    simp only [Bool.and_eq_true, Bool.not_eq_true', beq_eq_false_iff_ne, ne_eq, Bool.and_eq_false_iff, px_rn_cat]
    refine ⟨hji, ?_⟩
    by_cases hs : j + 1 = i
    · subst hs
      exact Or.inr (px_ok_c2 ho hj)
    · exact Or.inl hs
theorem px_LR.st2 {E : px_E} {ls ls' : Array Slot} {nL : Nat} {pl : px_L} {i : Nat} {v : Value} (h : px_LR E ls nL pl) (ho : px_ok pl i = true)
    (h' : lv_has ls' nL ((i, px_rn E v) :: (px_as E pl).filter (fun q => !(q.1 == i) && (!(q.1 == i + 1) && !(q.1 + 1 == i && q.2.category == 2))))) : px_LR E ls' nL ((pl.set i (some v)).set (i + 1) none) := by
  refine ⟨h'.1, by rw [List.length_set, List.length_set]; exact h.2.1, h'.2.1, fun j w hj => ?_⟩
  have hi := px_ok_lt ho
  have hj1 : j ≠ i + 1 := by
    intro q
    subst q
    rw [List.getElem?_set] at hj
    simp at hj
  rw [List.getElem?_set_ne (Ne.symm hj1)] at hj
  by_cases hji : j = i
  · subst hji
    rw [List.getElem?_set_self hi] at hj
    cases hj
    exact h'.2.2 _ List.mem_cons_self
  · rw [List.getElem?_set_ne (Ne.symm hji)] at hj
    refine h'.2.2 (j, px_rn E w) (List.mem_cons_of_mem _ (List.mem_filter.mpr ⟨px_as_mem hj, ?_⟩))
    simp only [Bool.and_eq_true, Bool.not_eq_true', beq_eq_false_iff_ne, ne_eq, Bool.and_eq_false_iff, px_rn_cat]
    refine ⟨hji, hj1, ?_⟩
    by_cases hs : j + 1 = i
    · subst hs
      exact Or.inr (px_ok_c2 ho hj)
    · exact Or.inl hs
