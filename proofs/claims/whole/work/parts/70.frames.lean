/-! frames of the whole invariant -/
def scr (wa : Nat → Nat) (tc a j : Nat) : Prop := a = 4 ∨ a = 5 ∨ a = 18 ∨ (a = 0 ∧ j = 14) ∨ (∃ t, t < tc ∧ a = wa t) ∨ (a = 31 ∧ (17 ≤ j ∧ j ≤ 31 ∨ j = 37 ∨ j = 39)) ∨ a = 41
def kpF (wa : Nat → Nat) (tc : Nat) (I I' : px_HI) : Prop := ∀ a j, ¬ scr wa tc a j → I' a j = I a j
theorem kpF.refl {wa : Nat → Nat} {tc : Nat} {I : px_HI} : kpF wa tc I I := fun _ _ _ => rfl
theorem kpF.trans {wa : Nat → Nat} {tc : Nat} {I I' I'' : px_HI} (h : kpF wa tc I I') (h' : kpF wa tc I' I'') : kpF wa tc I I'' := fun a j g => (h' a j g).trans (h a j g)
section PXFR
variable {n L cc tc rl sg tp : Nat} {so : Option Nat} {dr : px_HR} {ds : px_HS} {I I' : px_HI} {xs : Nat → Int32} {ca kd nb ta ua wa tz : Nat → Nat}
theorem Inv.wst (h : Inv xs L so dr ds I n cc tc rl sg tp ca kd nb ta ua wa tz) {t : Nat} (ht : t < tc) : (wa t = 30 ∨ 49 ≤ wa t) ∧ wa t < 1000000 ∧ ∃ len, dS L ds (wa t) = (100, len) := by
  obtain ⟨h0, h1, h2, h3, h4, h5, h6, h7, h8, h9, h10, h11, h12⟩ := h
  have g := h3.2.2.2.2 t ht
  have g' := h12 t ht
  exact ⟨g.2.2.2.2.2.1, by omega, _, g.2.1.2.2.2.2.1⟩
theorem kpF.lo (h : Inv xs L so dr ds I n cc tc rl sg tp ca kd nb ta ua wa tz) (f : kpF wa tc I I') {a j : Nat} (ha : a < 30 ∨ 30 < a ∧ a < 49 ∨ 1000000 ≤ a) (h4 : a ≠ 4) (h5 : a ≠ 5) (h18 : a ≠ 18) (h0 : a = 0 → j ≠ 14) (h31 : a = 31 → j < 17 ∨ 31 < j ∧ j ≠ 37 ∧ j ≠ 39) (h41 : a ≠ 41) : I' a j = I a j := by
  refine f a j (fun g => ?_)
  rcases g with g | g | g | g | ⟨t, ht, g⟩ | g | g
  · exact h4 g
  · exact h5 g
  · exact h18 g
  · exact h0 g.1 g.2
  · have := h.wst ht
    omega
  · have := h31 g.1
    omega
  · exact h41 g
theorem Inv.keep (h : Inv xs L so dr ds I n cc tc rl sg tp ca kd nb ta ua wa tz) (f : kpF wa tc I I') : Inv xs L so dr ds I' n cc tc rl sg tp ca kd nb ta ua wa tz := by
  have hh := h
  obtain ⟨h0, h1, h2, h3, h4, h5, h6, h7, h8, h9, h10, h11, h12⟩ := h
  have lo : ∀ a j, (a < 30 ∨ 30 < a ∧ a < 49 ∨ 1000000 ≤ a) → a ≠ 4 → a ≠ 5 → a ≠ 18 → (a = 0 → j ≠ 14) → (a = 31 → j < 17 ∨ 31 < j ∧ j ≠ 37 ∧ j ≠ 39) → a ≠ 41 → I' a j = I a j := fun a j => f.lo hh
  refine ⟨h0, h1.fr (fun a j g => ?_), ?_, ?_, h4.fr (fun a j g => ?_), h5.fr (fun a j g => ?_), h6.fr (fun a j g => ?_), fun a j g => ?_, h8, h9, h10, h11, h12⟩
  · unfold hFt at g
    exact lo a j (by omega) (by omega) (by omega) (by omega) (by omega) (by omega) (by omega)
  · obtain ⟨k1, k2, k3, k4⟩ := h2
    refine ⟨k1, (lo 0 1 (by omega) (by omega) (by omega) (by omega) (by omega) (by omega) (by omega)).trans k2, (lo 31 14 (by omega) (by omega) (by omega) (by omega) (by omega) (by omega) (by omega)).trans k3, fun i hi => ?_⟩
    obtain ⟨g1, g2, g3, g4, g5, g6, g7, g8⟩ := k4 i hi
    have fc : ∀ j, I' (ca i) j = I (ca i) j := by
      intro j
      refine f _ j (fun g => ?_)
      have hi49 := h10 i hi
      rcases g with g | g | g | g | ⟨t, ht, g⟩ | g | g
      · omega
      · omega
      · omega
      · omega
      · obtain ⟨w1, w2, len, w3⟩ := hh.wst ht
        rw [g, w3] at g2
        have e := (Prod.mk.inj g2).1
        have : cls (kd i) < 100 := by
          unfold cls
          split <;> decide
        omega
      · omega
      · omega
    exact ⟨g1, g2, g3, g4, (fc 0).trans g5, (fc 1).trans g6, (lo 35 i (by omega) (by omega) (by omega) (by omega) (by omega) (by omega) (by omega)).trans g7, (lo 36 i (by omega) (by omega) (by omega) (by omega) (by omega) (by omega) (by omega)).trans g8⟩
  · obtain ⟨k1, k2, k3, k4, k5⟩ := h3
    have e32 : ∀ j, I' 32 j = I 32 j := fun j => lo 32 j (by omega) (by omega) (by omega) (by omega) (by omega) (by omega) (by omega)
    refine ⟨k1, k2, (lo 0 9 (by omega) (by omega) (by omega) (by omega) (by omega) (by omega) (by omega)).trans k3, (lo 31 3 (by omega) (by omega) (by omega) (by omega) (by omega) (by omega) (by omega)).trans k4, fun t ht => ?_⟩
    obtain ⟨g1, g2, g3, g4, g5, g6, g7, g8⟩ := k5 t ht
    have eb : (fun j => I' 32 (160 * t + j)) = fun j => I 32 (160 * t + j) := funext (fun j => e32 _)
    refine ⟨g1, ?_, (lo 33 t (by omega) (by omega) (by omega) (by omega) (by omega) (by omega) (by omega)).trans g3, g4, fun j hj => by rw [e32]; exact g5 j hj, g6, g7, g8⟩
    rw [eb]
    obtain ⟨a1, a2, a3, a4, a5, a6, a7, a8, a9, a10, a11⟩ := g2
    have hta := h12 t ht
    have ft : ∀ j, I' (ta t) j = I (ta t) j := by
      intro j
      refine f _ j (fun g => ?_)
      rcases g with g | g | g | g | ⟨t', ht', g⟩ | g | g
      · omega
      · omega
      · omega
      · omega
      · obtain ⟨w1, w2, len, w3⟩ := hh.wst ht'
        rw [g, w3] at a1
        exact absurd (Prod.mk.inj a1).1 (by decide)
      · omega
      · omega
    have fu : ∀ j, I' (ua t) j = I (ua t) j := by
      intro j
      refine f _ j (fun g => ?_)
      rcases g with g | g | g | g | ⟨t', ht', g⟩ | g | g
      · omega
      · omega
      · omega
      · omega
      · exact (k5 t' ht').2.2.2.2.2.2.2 t ht g
      · omega
      · omega
    exact ⟨a1, a2, a3, a4, a5, a6, a7, (ft 1).trans a8, (ft 2).trans a9, fun j hj => (fu j).trans (a10 j hj), a11⟩
  · unfold pFt at g
    exact lo a j (by omega) (by omega) (by omega) (by omega) (by omega) (by omega) (by omega)
  · unfold kFt at g
    exact lo a j (by omega) (by omega) (by omega) (by omega) (by omega) (by omega) (by omega)
  · unfold sFt at g
    exact lo a j (by omega) (by omega) (by omega) (by omega) (by omega) (by omega) (by omega)
  · rw [lo a j (by omega) (by omega) (by omega) (by omega) (by omega) (by omega) (by omega)]
    exact h7 a j g
theorem Inv.house {rl' sg' : Nat} (h : Inv xs L so dr ds I n cc tc rl sg tp ca kd nb ta ua wa tz) (f : ∀ a j, ¬ hFt a j → I' a j = I a j) (hr : rl' < tc) (hI : hIv I' rl' sg') : Inv xs L so dr ds I' n cc tc rl' sg' tp ca kd nb ta ua wa tz := by
  obtain ⟨h0, h1, h2, h3, h4, h5, h6, h7, h8, h9, h10, h11, h12⟩ := h
  refine ⟨hr, hI, h2.g (fun i hi => (h10 i hi).1) (fun a j g => f a j ?_), h3.g (fun t ht => (h12 t ht).1) (fun a j g => f a j ?_), h4.fr (fun a j g => f a j ?_), h5.fr (fun a j g => f a j ?_), h6.fr (fun a j g => f a j ?_), fun a j g => (f a j ?_).trans (h7 a j g), h8, h9, h10, h11, h12⟩
  · unfold cFt at g
    unfold hFt
    omega
  · unfold tFt at g
    unfold hFt
    omega
  · unfold pFt at g
    unfold hFt
    omega
  · unfold kFt at g
    unfold hFt
    omega
  · unfold sFt at g
    unfold hFt
    omega
  · unfold hFt
    omega
theorem Inv.sheets (h : Inv xs L so dr ds I n cc tc rl sg tp ca kd nb ta ua wa tz) (f : ∀ a j, ¬ sFt a → I' a j = I a j) (hI : sIv I') : Inv xs L so dr ds I' n cc tc rl sg tp ca kd nb ta ua wa tz := by
  obtain ⟨h0, h1, h2, h3, h4, h5, h6, h7, h8, h9, h10, h11, h12⟩ := h
  refine ⟨h0, h1.fr (fun a j g => f a j ?_), h2.g (fun i hi => (h10 i hi).1) (fun a j g => f a j ?_), h3.g (fun t ht => (h12 t ht).1) (fun a j g => f a j ?_), h4.fr (fun a j g => f a j ?_), h5.fr (fun a j g => f a j ?_), hI, fun a j g => (f a j ?_).trans (h7 a j g), h8, h9, h10, h11, h12⟩
  · unfold hFt at g
    unfold sFt
    omega
  · unfold cFt at g
    unfold sFt
    omega
  · unfold tFt at g
    unfold sFt
    omega
  · unfold pFt at g
    unfold sFt
    omega
  · unfold kFt at g
    unfold sFt
    omega
  · unfold sFt
    omega
theorem Inv.kept (h : Inv xs L so dr ds I n cc tc rl sg tp ca kd nb ta ua wa tz) (f : ∀ a j, ¬ kFt a j → I' a j = I a j) (hI : kIv I' cc tc) : Inv xs L so dr ds I' n cc tc rl sg tp ca kd nb ta ua wa tz := by
  obtain ⟨h0, h1, h2, h3, h4, h5, h6, h7, h8, h9, h10, h11, h12⟩ := h
  refine ⟨h0, h1.fr (fun a j g => f a j ?_), h2.g (fun i hi => (h10 i hi).1) (fun a j g => f a j ?_), h3.g (fun t ht => (h12 t ht).1) (fun a j g => f a j ?_), h4.fr (fun a j g => f a j ?_), hI, h6.fr (fun a j g => f a j ?_), fun a j g => (f a j ?_).trans (h7 a j g), h8, h9, h10, h11, h12⟩
  · unfold hFt at g
    unfold kFt
    omega
  · unfold cFt at g
    unfold kFt
    omega
  · unfold tFt at g
    unfold kFt
    omega
  · unfold pFt at g
    unfold kFt
    omega
  · unfold sFt at g
    unfold kFt
    omega
  · unfold kFt
    omega
end PXFR
