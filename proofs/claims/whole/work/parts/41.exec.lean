/-! steps over a stack, and that what PP reads and what it says agree -/
def ex1 (e : pE) (st : List Int32) (s : Int32) : Option (List Int32) :=
  if -6 ≤ s then some ((if 0 ≤ s then s else e s) :: st)
  else if s = -9 then match st with
    | v :: r => some (bI (decide (v = 0)) :: r)
    | [] => none
  else if s = -15 then match st with
    | v :: r => some (-v :: r)
    | [] => none
  else match st with
    | y :: x :: r => some (jn s x y :: r)
    | _ => none
def ex (e : pE) : List Int32 → List Int32 → Option (List Int32)
  | [], st => some st
  | s :: ss, st => match ex1 e st s with
    | some st' => ex e ss st'
    | none => none
theorem ex_app (e : pE) : ∀ (a b st st' : List Int32), ex e a st = some st' → ex e (a ++ b) st = ex e b st'
  | [], b, st, st', h => by cases h; rfl
  | s :: a, b, st, st', h => by
    unfold ex at h
    show (match ex1 e st s with
      | some st' => ex e (a ++ b) st'
      | none => none) = _
    cases h1 : ex1 e st s with
    | none => rw [h1] at h; cases h
    | some s1 => rw [h1] at h; exact ex_app e a b s1 st' h
theorem ex_one {e : pE} {st st' : List Int32} {s : Int32} (h : ex1 e st s = some st') : ex e [s] st = some st' := by
  unfold ex
  rw [h]
  rfl
theorem lv_t {t : Int32} {l : Nat} (hl : l ≤ 4) (h : lvI t = nI l) : ¬ -6 ≤ t ∧ ¬ t = -9 ∧ ¬ t = -15 := by
  unfold lvI at h
  split at h
  · rename_i e; subst e; decide
  · split at h
    · rename_i e; subst e; decide
    · split at h
      · rename_i e; subst e; decide
      · split at h
        · rename_i e; subst e; decide
        · split at h
          · rename_i e; subst e; decide
          · split at h
            · rename_i e; subst e; decide
            · split at h
              · rename_i e; subst e; decide
              · exact absurd h.symm (nI_m1 (by omega))
def PPx (m : Nat) (acc : List Int32) (v : pE → Int32) (r : pRes) : Prop := r.1 = true → ∃ s, r.2.2.1 = acc ++ s ∧ ∀ e st, ex e s (if m ≤ 5 then st else v e :: st) = some (r.2.2.2 e :: st)
theorem pTh_x {m m1 : Nat} {acc : List Int32} {v v1 : pE → Int32} {r : pRes} {k : Nat → List Int32 → (pE → Int32) → pRes} (h : PPx m1 acc v1 r) (hk : ∀ p s w, (∀ e st, ex e s (if m1 ≤ 5 then st else v1 e :: st) = some (w e :: st)) → PPx m acc v (k p (acc ++ s) w)) : PPx m acc v (pTh r k) := by
  obtain ⟨o, p, a, w⟩ := r
  cases o
  · intro h; cases h
  · obtain ⟨s, hs, he⟩ := h rfl
    simp only at hs he
    subst hs
    exact hk p s w he
theorem PP_x (b : Nat → Int32) (z : Nat) : ∀ f m dep p acc v, m ≤ 5 ∨ 10 ≤ m ∧ m ≤ 14 → PPx m acc v (PP b z f m dep p acc v)
  | 0, m, dep, p, acc, v, hm => fun h => by cases h
  | f + 1, m, dep, p, acc, v, hm => by
    have ih := PP_x b z f
    unfold PP
    split
    · rename_i hm5
      split
      · rename_i h2
        split
        · intro h; cases h
        · refine pTh_x (ih 2 (dep + 1) (nxt b z p) acc v (by omega)) (fun p' s w he => fun _ => ⟨s ++ [-9], by simp, fun e st => ?_⟩)
          rw [if_pos (by omega)]
          have := he e st
          rw [if_pos (by decide)] at this
          rw [ex_app e _ _ _ _ this]
          exact ex_one rfl
      · refine pTh_x (ih (m + 1) dep p acc v (by omega)) (fun p' s w he => ?_)
        intro hr
        obtain ⟨s2, h1, h2⟩ := ih (m + 10) dep p' (acc ++ s) w (by omega) hr
        refine ⟨s ++ s2, by rw [h1]; simp, fun e st => ?_⟩
        have h3 := he e st
        have h4 := h2 e st
        rw [if_pos (by omega)] at h3 ⊢
        rw [if_neg (by omega)] at h4
        rw [ex_app e _ _ _ _ h3, h4]
    · split
      · split
        · rename_i hm1 hm5 h2
          subst hm5
          intro _
          refine ⟨[tkc b z p], rfl, fun e st => ex_one ?_⟩
          unfold ex1
          have h6 : -6 ≤ tkc b z p := by
            rcases h2 with h | h
            · exact Int32.le_trans (show (-6 : Int32) ≤ 0 by decide) h
            · exact h.2
          rw [if_pos h6, if_pos (Nat.le_refl 5)]
        · split
          · split
            · intro h; cases h
            · refine pTh_x (ih 5 (dep + 1) (nxt b z p) acc v (by omega)) (fun p' s w he => fun _ => ⟨s ++ [-15], by simp, fun e st => ?_⟩)
              rw [if_pos (by omega)]
              have := he e st
              rw [if_pos (by decide)] at this
              rw [ex_app e _ _ _ _ this]
              exact ex_one rfl
          · split
            · refine pTh_x (ih 0 (dep + 1) (nxt b z p) acc v (by omega)) (fun p' s w he => ?_)
              split
              · exact fun _ => ⟨s, rfl, fun e st => by rw [if_pos (by omega)]; have := he e st; rw [if_pos (by decide)] at this; exact this⟩
              · intro h; cases h
            · intro h; cases h
      · split
        · rename_i hm1 hm5 hl
          by_cases h10 : m < 10
          · omega
          · have ht := lv_t (by omega) hl
            refine pTh_x (ih (m - 9) dep (nxt b z p) acc v (by omega)) (fun p' s w he => ?_)
            have hstep : ∀ e st, ex e (s ++ [tkc b z p]) (v e :: st) = some (jn (tkc b z p) (v e) (w e) :: st) := by
              intro e st
              have := he e (v e :: st)
              rw [if_pos (by omega)] at this
              rw [ex_app e _ _ _ _ this]
              refine ex_one ?_
              unfold ex1
              rw [if_neg ht.1, if_neg ht.2.1, if_neg ht.2.2]
            split
            · exact fun _ => ⟨s ++ [tkc b z p], by simp, fun e st => by rw [if_neg (by omega)]; exact hstep e st⟩
            · intro hr
              obtain ⟨s2, h1, h2⟩ := ih m dep p' (acc ++ s ++ [tkc b z p]) (fun e => jn (tkc b z p) (v e) (w e)) hm hr
              refine ⟨s ++ [tkc b z p] ++ s2, by rw [h1]; simp, fun e st => ?_⟩
              have h4 := h2 e st
              rw [if_neg (by omega)] at h4 ⊢
              rw [ex_app e _ _ _ _ (hstep e st), h4]
        · intro _
          exact ⟨[], by simp, fun e st => by rw [if_neg (by omega)]; rfl⟩
