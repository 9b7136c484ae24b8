/-! gathers() of the model as a call; the parts of the invariant and what they look at -/
section PXG2
variable {D n q L sg rl tc cc : Nat} {so : Option Nat} {dr : px_HR} {ds : px_HS} {ta ua wa tz ca kd nb : Nat → Nat} {I0 : px_HI} {J0 : px_HJ}
theorem r_gathers (hT : tIv I0 (dR so dr) (dS L ds) tc ta ua wa tz) (hC : cIv I0 (dR so dr) (dS L ds) cc ca kd nb) (hr : I0 31 4 = nI rl) (hrl : rl < tc) (hg : I0 31 16 = nI sg) (h6 : sg ≤ 6) : ∃ I' J', px_mt (D + 82) 203 [.ref 31] I0 J0 (dR so dr) (dS L ds) n q (none, I', J', dR so dr, dS L ds, n, q) ∧ mF3 I0 I' ∧ gaJ J0 J' ∧ (∀ t, t < cc → J' 38 t = gW I0 tz kd nb (I0 31 7) (I0 31 8) (I0 31 9) (I0 31 10) (I0 31 11) rl sg (I0 37) t) ∧ (∀ t, t < cc → J' 39 t = (gX I0 tz kd (I0 31 7) (I0 31 8) (I0 31 9) rl sg t).toInt64) ∧ J' 31 34 = gA (gW I0 tz kd nb (I0 31 7) (I0 31 8) (I0 31 9) (I0 31 10) (I0 31 11) rl sg (I0 37)) cc := by
  obtain ⟨I', J', h1, h2, h3, rest⟩ := w_ga (D := D) (n := n) (q := q) (J0 := px_u J0 31 34 0) hT hC hr hrl hg h6 cc 0 I0 (px_u J0 31 34 0) none none (by omega) (fun _ _ _ => rfl) (fun _ _ _ _ _ => rfl) (fun t ht => absurd ht (by omega)) (fun t ht => absurd ht (by omega)) u_eq
  refine ⟨I', J', ?_, h2, fun a j g1 g2 g3 => by rw [h3 a j g1 g2 g3, u_ne (fun e => (g1 e).2)], rest⟩
  unfold px_mt
  refine e_s rfl ?_
  refine e_s rfl ?_
  refine e_s rfl ?_
  refine e_s rfl ?_
  refine e_s rfl ?_
  exact h1
end PXG2
/-- the house and what is heard -/
def hIv (I : px_HI) (rl sg : Nat) : Prop := I 2 0 = I 31 7 ∧ I 2 1 = I 31 8 ∧ I 2 2 = I 31 9 ∧ I 2 3 = I 31 10 ∧ I 2 4 = I 31 11 ∧ I 2 5 = nI rl ∧ I 31 4 = nI rl ∧ I 2 6 = nI sg ∧ I 31 16 = nI sg ∧ sg ≤ 6 ∧ ∀ j, j < 6 → I 3 j = I 37 j
def hFt (a j : Nat) : Prop := a = 2 ∨ a = 3 ∨ a = 37 ∨ a = 31 ∧ (j = 4 ∨ 7 ≤ j ∧ j ≤ 11 ∨ j = 16)
theorem hIv.fr {I I' : px_HI} {rl sg : Nat} (h : hIv I rl sg) (f : ∀ a j, hFt a j → I' a j = I a j) : hIv I' rl sg := by
  obtain ⟨h1, h2, h3, h4, h5, h6, h7, h8, h9, h10, h11⟩ := h
  refine ⟨?_, ?_, ?_, ?_, ?_, ?_, ?_, ?_, ?_, h10, fun j hj => ?_⟩
  · rw [f 2 0 (Or.inl rfl), f 31 7 (Or.inr (Or.inr (Or.inr ⟨rfl, by decide⟩)))]; exact h1
  · rw [f 2 1 (Or.inl rfl), f 31 8 (Or.inr (Or.inr (Or.inr ⟨rfl, by decide⟩)))]; exact h2
  · rw [f 2 2 (Or.inl rfl), f 31 9 (Or.inr (Or.inr (Or.inr ⟨rfl, by decide⟩)))]; exact h3
  · rw [f 2 3 (Or.inl rfl), f 31 10 (Or.inr (Or.inr (Or.inr ⟨rfl, by decide⟩)))]; exact h4
  · rw [f 2 4 (Or.inl rfl), f 31 11 (Or.inr (Or.inr (Or.inr ⟨rfl, by decide⟩)))]; exact h5
  · rw [f 2 5 (Or.inl rfl)]; exact h6
  · rw [f 31 4 (Or.inr (Or.inr (Or.inr ⟨rfl, by decide⟩)))]; exact h7
  · rw [f 2 6 (Or.inl rfl)]; exact h8
  · rw [f 31 16 (Or.inr (Or.inr (Or.inr ⟨rfl, by decide⟩)))]; exact h9
  · rw [f 3 j (Or.inr (Or.inl rfl)), f 37 j (Or.inr (Or.inr (Or.inl rfl)))]; exact h11 j hj
/-- the tape -/
def pIv (I : px_HI) (tp : Nat) : Prop := I 10 1 = nI tp ∧ I 31 6 = nI tp ∧ tp ≤ 160 ∧ ∀ j, j < tp → I 11 j = I 34 j ∧ 0 ≤ I 34 j
def pFt (a j : Nat) : Prop := a = 10 ∧ j = 1 ∨ a = 11 ∨ a = 34 ∨ a = 31 ∧ j = 6
theorem pIv.fr {I I' : px_HI} {tp : Nat} (h : pIv I tp) (f : ∀ a j, pFt a j → I' a j = I a j) : pIv I' tp := by
  obtain ⟨h1, h2, h3, h4⟩ := h
  refine ⟨?_, ?_, h3, fun j hj => ?_⟩
  · rw [f 10 1 (Or.inl ⟨rfl, rfl⟩)]; exact h1
  · rw [f 31 6 (Or.inr (Or.inr (Or.inr ⟨rfl, rfl⟩)))]; exact h2
  · rw [f 11 j (Or.inr (Or.inl rfl)), f 34 j (Or.inr (Or.inr (Or.inl rfl)))]; exact h4 j hj
/-- what image() kept: nothing, or so many callers with a rule and signs -/
def kIv (I : px_HI) (cc tc : Nat) : Prop := (I 0 6 = -1 ∧ I 31 43 = -1) ∨ ∃ kc kr ks, kc ≤ cc ∧ kr < tc ∧ ks ≤ 6 ∧ I 0 6 = nI kc ∧ I 31 43 = nI kc ∧ I 6 0 = I 44 0 ∧ I 6 1 = I 44 1 ∧ I 6 2 = I 44 2 ∧ I 6 3 = I 44 3 ∧ I 6 4 = I 44 4 ∧ I 6 5 = nI kr ∧ I 31 44 = nI kr ∧ I 6 6 = nI ks ∧ I 44 5 = nI ks ∧ (∀ j, j < 6 → I 7 j = I 43 j) ∧ ∀ i, i < kc → I 8 i = I 42 i ∧ ∃ x, x ≤ 9 ∧ I 8 i = nI x
def kFt (a j : Nat) : Prop := a = 0 ∧ j = 6 ∨ a = 31 ∧ (j = 43 ∨ j = 44) ∨ a = 6 ∨ a = 7 ∨ a = 8 ∨ a = 42 ∨ a = 43 ∨ a = 44
theorem kIv.fr {I I' : px_HI} {cc tc : Nat} (h : kIv I cc tc) (f : ∀ a j, kFt a j → I' a j = I a j) : kIv I' cc tc := by
  have f0 : I' 0 6 = I 0 6 := f 0 6 (Or.inl ⟨rfl, rfl⟩)
  have f31 : I' 31 43 = I 31 43 := f 31 43 (Or.inr (Or.inl ⟨rfl, Or.inl rfl⟩))
  have f32 : I' 31 44 = I 31 44 := f 31 44 (Or.inr (Or.inl ⟨rfl, Or.inr rfl⟩))
  have f6 : ∀ j, I' 6 j = I 6 j := fun j => f 6 j (Or.inr (Or.inr (Or.inl rfl)))
  have f7 : ∀ j, I' 7 j = I 7 j := fun j => f 7 j (Or.inr (Or.inr (Or.inr (Or.inl rfl))))
  have f8 : ∀ j, I' 8 j = I 8 j := fun j => f 8 j (Or.inr (Or.inr (Or.inr (Or.inr (Or.inl rfl)))))
  have f42 : ∀ j, I' 42 j = I 42 j := fun j => f 42 j (Or.inr (Or.inr (Or.inr (Or.inr (Or.inr (Or.inl rfl))))))
  have f43 : ∀ j, I' 43 j = I 43 j := fun j => f 43 j (Or.inr (Or.inr (Or.inr (Or.inr (Or.inr (Or.inr (Or.inl rfl)))))))
  have f44 : ∀ j, I' 44 j = I 44 j := fun j => f 44 j (Or.inr (Or.inr (Or.inr (Or.inr (Or.inr (Or.inr (Or.inr rfl)))))))
  unfold kIv at h ⊢
  simp only [f0, f31, f32, f6, f7, f8, f42, f43, f44]
  exact h
/-- the sheets -/
def sIv (I : px_HI) : Prop := ∀ s, s < 4 → (I 45 s = 0 ∧ I (20 + 2 * s) 1 = -1 ∧ I (20 + 2 * s) 2 = 0) ∨ ∃ so z, so ≤ 2 ∧ z ≤ 40 ∧ I 45 s = 1 ∧ I (20 + 2 * s) 1 = nI so ∧ I 46 s = nI so ∧ I (20 + 2 * s) 2 = nI z ∧ I 47 s = nI z ∧ ∀ j, j < z → I (21 + 2 * s) j = I 48 (40 * s + j)
def sFt (a : Nat) : Prop := 20 ≤ a ∧ a ≤ 27 ∨ 45 ≤ a ∧ a ≤ 48
theorem sIv.fr {I I' : px_HI} (h : sIv I) (f : ∀ a j, sFt a → I' a j = I a j) : sIv I' := by
  intro s hs
  have f1 : ∀ j, I' (20 + 2 * s) j = I (20 + 2 * s) j := fun j => f _ j (Or.inl (by omega))
  have f2 : ∀ j, I' (21 + 2 * s) j = I (21 + 2 * s) j := fun j => f _ j (Or.inl (by omega))
  have f45 : ∀ j, I' 45 j = I 45 j := fun j => f 45 j (Or.inr (by decide))
  have f46 : ∀ j, I' 46 j = I 46 j := fun j => f 46 j (Or.inr (by decide))
  have f47 : ∀ j, I' 47 j = I 47 j := fun j => f 47 j (Or.inr (by decide))
  have f48 : ∀ j, I' 48 j = I 48 j := fun j => f 48 j (Or.inr (by decide))
  simp only [f1, f2, f45, f46, f47, f48]
  exact h s hs
