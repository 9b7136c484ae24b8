/-! cells of the pure heap as cells of the world -/
theorem px_lk {tb : List (Nat × Nat)} {k : Nat} : (tb.lookup k).isSome = true → ∃ e ∈ tb, e.1 = k := by
  induction tb with
  | nil => intro h; cases h
  | cons x t ih =>
    intro h
    obtain ⟨x1, x2⟩ := x
    rw [List.lookup_cons] at h
    by_cases hk : (k == x1) = true
    · exact ⟨_, List.mem_cons_self, (beq_iff_eq.mp hk).symm⟩
    · rw [Bool.not_eq_true] at hk
      rw [hk] at h
      obtain ⟨e, he, hek⟩ := ih h
      exact ⟨e, List.mem_cons_of_mem _ he, hek⟩
theorem px_lk2 {tb : List (Nat × Nat)} {k z : Nat} : tb.lookup k = some z → (k, z) ∈ tb := by
  induction tb with
  | nil => intro h; cases h
  | cons x t ih =>
    intro h
    obtain ⟨x1, x2⟩ := x
    rw [List.lookup_cons] at h
    by_cases hk : (k == x1) = true
    · rw [hk] at h
      cases h
      rw [beq_iff_eq.mp hk]
      exact List.mem_cons_self
    · rw [Bool.not_eq_true] at hk
      rw [hk] at h
      exact List.mem_cons_of_mem _ (ih h)
section PXH
variable {E : px_E} {s : State} {I I' : px_HI} {J J' : px_HJ} {R R' : px_HR} {S : px_HS} {n o : Nat} {H H1 : Heap}
theorem px_lt (hR : px_Rel E I J R S n H) (hK : px_K E s) (h : px_rw (S o).1 = true) : o < n := by
  obtain ⟨-, -, -, h4, h5⟩ := hR
  rcases Nat.lt_or_ge o n with h1 | h1
  · exact h1
  · rcases Nat.lt_or_ge o 1000000 with h2 | h2
    · rw [h4 o h1 h2] at h
      cases h
    · rw [(h5 o h2).1] at h
      rcases hK.2.2.2.2.2.2.2.2.2.2 o h2 with q | q | q | q <;> (rw [q] at h; cases h)
theorem px_far (hR : px_Rel E I J R S n H) (h : px_rw (S o).1 = false) (h0 : (S o).1 ≠ 0) : 1000000 ≤ o ∧ S o = E.2.2.2.2.2.2 o ∧ I o = E.2.2.2.2.1 o ∧ R o = E.2.2.2.2.2.1 o := by
  obtain ⟨-, -, h3, h4, h5⟩ := hR
  rcases Nat.lt_or_ge o n with h1 | h1
  · rw [h3 o h1] at h
    cases h
  · rcases Nat.lt_or_ge o 1000000 with h2 | h2
    · exact absurd (h4 o h1 h2) h0
    · exact ⟨h2, h5 o h2⟩
theorem px_al_lt (hR : px_Rel E I J R S n H) (ho : o < n) : px_al E o = E.1 + o := by
  unfold px_al
  rw [if_pos (Nat.lt_of_lt_of_le ho hR.2.1)]
theorem px_al_ge (ho : 1000000 ≤ o) : px_al E o = E.2.1 o := by
  unfold px_al
  rw [if_neg (Nat.not_lt.mpr ho)]
theorem px_wsg (ho : o < n) : (px_ws E I J R S n)[o]? = some (E.1 + o, px_ce E I J R S o) := by
  unfold px_ws
  rw [List.getElem?_map, List.getElem?_range ho]
  rfl
theorem px_wsD (E : px_E) (I : px_HI) (J : px_HJ) (R : px_HR) (S : px_HS) (n : Nat) : va_D (px_A E) (px_ws E I J R S n) := by
  have key : ∀ (k : Nat) (x : Nat × va_E), (px_ws E I J R S n)[k]? = some x → x.1 = E.1 + k := by
    intro k x hx
    have hk : k < n := by
      have := (List.getElem?_eq_some_iff.mp hx).1
      simpa [px_ws] using this
    rw [px_wsg hk] at hx
    cases hx
    rfl
  refine ⟨fun i j x y hi hj hxy => ?_, fun k x hx => ?_⟩
  · rw [key i x hi, key j y hj] at hxy
    omega
  · show E.1 ≤ x.1
    rw [key k x hx]
    omega
theorem px_Rel.upd {ce : va_E} (hR : px_Rel E I J R S n H) (ho : o < n) (hP : va_P E.2.2.1 px_cl ((px_ws E I J R S n).set o (E.1 + o, ce)) H1) (hce : px_ce E I' J' R' S o = ce) (hoth : ∀ b, b ≠ o → I' b = I b ∧ J' b = J b ∧ R' b = R b) : px_Rel E I' J' R' S n H1 := by
  obtain ⟨h1, h2, h3, h4, h5⟩ := hR
  refine ⟨?_, h2, h3, h4, fun a ha => ?_⟩
  · have e : px_ws E I' J' R' S n = (px_ws E I J R S n).set o (E.1 + o, ce) := by
      refine List.ext_getElem? fun k => ?_
      by_cases hk : k < n
      · rw [px_wsg hk]
        by_cases hko : k = o
        · subst hko
          rw [List.getElem?_set_self (by simpa [px_ws] using hk), hce]
        · rw [List.getElem?_set_ne (Ne.symm hko), px_wsg hk]
          obtain ⟨q1, q2, q3⟩ := hoth k hko
          have q4 : px_fv E I' J' R' k = px_fv E I J R k := by
            funext ci j
            unfold px_fv
            rw [q1, q2, q3]
          unfold px_ce
          rw [q1, q2, q3, q4]
      · rw [List.getElem?_eq_none (by simpa [px_ws] using hk), List.getElem?_eq_none (by simpa [px_ws] using hk)]
    rw [e]
    exact hP
  · have hao : a ≠ o := by omega
    obtain ⟨q1, q2, q3⟩ := hoth a hao
    rw [q1, q3]
    exact h5 a ha
theorem px_size {p : Program} {l : Launch} {e : Env} {Rm : Room} {mi : MethodId} {args : Array Value} {below : List Frame} {meth : Method} {c : Code} {locs : List Loc} {cells slots : Nat} {Q : State → Prop} {g : JFrame} (k : H.size ≤ s.heap.size + cells → W p l e Rm s mi args below meth c H locs cells slots Q g) : W p l e Rm s mi args below meth c H locs cells slots Q g := by
  intro T hT X
  have h := X.same.2.2.1
  refine k ?_ T hT X
  rw [← hT]
  exact h
theorem px_sz (hR : px_Rel E I J R S n H) {n0 cells : Nat} {locs : List Loc} (h0 : s.heap.size = E.1 + n0) (hc : cells + n0 = n) (hS : va_S (px_A E) s.heap H locs) (h : H.size ≤ s.heap.size + cells) : H.size = E.1 + n := by
  have h1 : E.1 + n ≤ H.size := by
    rcases Nat.eq_zero_or_pos n with z | z
    · have := hS.1
      omega
    · have := (hR.1 (n - 1) _ (px_wsg (by omega))).lt
      dsimp only at this
      omega
  omega
end PXH
/-! the classes -/
def px_clb (ci : Nat) : Bool := match px_cl[ci]? with
  | none => true
  | some r => (u_ws r.1 r.2.1 r.2.2).all (fun w => decide (w ∈ lw_tbl) && goodWord w) && (List.range r.2.2).all (fun k => decide (parseFieldDescriptor (r.2.1 k).2.2.1 = some (px_ty ci k)) && decide (px_ty ci k ≠ .float ∧ px_ty ci k ≠ .double)) && (List.range r.2.2).all (fun a => (List.range r.2.2).all (fun b => Nat.beq a b || decide ((r.2.1 a).2.1 ≠ (r.2.1 b).2.1)))
set_option maxRecDepth 100000 in
theorem px_clb0 : (List.range 12).all px_clb = true := by decide +kernel
set_option maxRecDepth 100000 in
theorem px_clb1 : px_clb 12 = true := by decide +kernel
theorem px_cllen : px_cl.length = 13 := by decide +kernel
theorem px_clok {ci : Nat} {r : vw_C} (h : px_cl[ci]? = some r) : (∀ w ∈ u_ws r.1 r.2.1 r.2.2, w ∈ px_B) ∧ (∀ k, k < r.2.2 → parseFieldDescriptor (r.2.1 k).2.2.1 = some (px_ty ci k)) ∧ (∀ a, a < r.2.2 → ∀ b, b < r.2.2 → a ≠ b → (r.2.1 a).2.1 ≠ (r.2.1 b).2.1) ∧ (∀ k, k < r.2.2 → px_ty ci k ≠ .float ∧ px_ty ci k ≠ .double) := by
  have hb : px_clb ci = true := by
    have hl := (List.getElem?_eq_some_iff.mp h).1
    rw [px_cllen] at hl
    rcases (show ci < 12 ∨ ci = 12 by omega) with q | q
    · exact List.all_eq_true.mp px_clb0 ci (List.mem_range.mpr q)
    · rw [q]
      exact px_clb1
  unfold px_clb at hb
  rw [h] at hb
  simp only [Bool.and_eq_true, List.all_eq_true, decide_eq_true_eq, List.mem_range, Bool.or_eq_true, Nat.beq_eq] at hb
  obtain ⟨⟨h1, h2⟩, h3⟩ := hb
  refine ⟨fun w hw => List.mem_filter.mpr (h1 w hw), fun k hk => (h2 k hk).1, fun a ha b hb hab => ?_, fun k hk => (h2 k hk).2⟩
  rcases h3 a ha b hb with q | q
  · exact absurd q hab
  · exact q
theorem px_fqs {m op a b c kd : Nat} (h : px_fq m op a b c kd = true) : ∃ (r : vw_C) (ref : String), px_cl[kd - 10]? = some r ∧ 10 ≤ kd ∧ kd ≤ 22 ∧ a < r.2.2 ∧ Cond.fieldLink (px_cn (px_on m)) c ref (r.2.1 a).2.1 (r.2.1 a).2.2.1 ∈ px_B ∧ (ref = (r.2.1 a).1 ∨ Cond.sameField ref (r.2.1 a).1 (r.2.1 a).2.1 (r.2.1 a).2.2.1 ∈ px_B) ∧ px_ft (px_ty (kd - 10) a) = (cond (Nat.ble op 30) (op - 28) (op - 31)) ∧
    (op ≤ 30 ∨ ((cond (Nat.beq b 1) (decide (px_ty (kd - 10) a = .boolean)) (decide (px_ty (kd - 10) a ≠ .boolean ∧ px_ty (kd - 10) a ≠ .byte ∧ px_ty (kd - 10) a ≠ .short ∧ px_ty (kd - 10) a ≠ .char))) = true ∧ ((r.2.1 a).2.2.2 = false ∨ ((px_y m).name = "<init>" ∧ (r.2.1 a).1 = px_cn (px_on m))))) := by
  unfold px_fq at h
  cases hr : px_cl[kd - 10]? with
  | none => rw [hr] at h; cases h
  | some r =>
    rw [hr] at h
    simp only [Bool.and_eq_true, Bool.or_eq_true, Nat.beq_eq, Nat.ble_eq, List.any_eq_true, decide_eq_true_eq, Bool.not_eq_true'] at h
    obtain ⟨⟨⟨h1, e, he, ⟨⟨e1, e2⟩, e3⟩, e4⟩, h3⟩, h4⟩ := h
    obtain ⟨o1, o2, o3, o4, ref, ps⟩ := e
    dsimp only at e1 e2 e3 e4
    subst e1; subst e2; subst e3; subst e4
    have hf := List.all_eq_true.mp px_flok _ he
    unfold px_fok at hf
    dsimp only at hf
    rw [hr] at hf
    simp only [Bool.and_eq_true, Nat.blt_eq] at hf
    have hm := px_has.mem hf.2
    unfold px_fw at hm
    rw [hr] at hm
    dsimp only at hm
    have hl := (List.getElem?_eq_some_iff.mp hr).1
    rw [px_cllen] at hl
    refine ⟨r, ref, rfl, h1, by omega, hf.1, hm _ List.mem_cons_self, ?_, h3, h4⟩
    by_cases hq : ref = (r.2.1 o4).1
    · exact Or.inl hq
    · rw [if_neg hq] at hm
      exact Or.inr (hm _ (List.mem_cons_of_mem _ List.mem_cons_self))
