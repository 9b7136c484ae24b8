/-! the invariant of the law's loop -/
def cFt (a j : Nat) : Prop := a = 0 ∧ j = 1 ∨ a = 31 ∧ j = 14 ∨ a = 35 ∨ a = 36 ∨ 49 ≤ a
def tFt (a j : Nat) : Prop := a = 0 ∧ j = 9 ∨ a = 31 ∧ j = 3 ∨ a = 32 ∨ a = 33 ∨ a = 28 ∨ a = 29 ∨ 49 ≤ a
theorem cIv.g {I I' : px_HI} {R : px_HR} {S : px_HS} {cc : Nat} {ca kd nb : Nat → Nat} (h : cIv I R S cc ca kd nb) (hca : ∀ i, i < cc → 49 ≤ ca i) (f : ∀ a j, cFt a j → I' a j = I a j) : cIv I' R S cc ca kd nb := by
  obtain ⟨h1, h2, h3, h4⟩ := h
  refine ⟨h1, (f 0 1 (Or.inl ⟨rfl, rfl⟩)).trans h2, (f 31 14 (Or.inr (Or.inl ⟨rfl, rfl⟩))).trans h3, fun i hi => ?_⟩
  obtain ⟨g1, g2, g3, g4, g5, g6, g7, g8⟩ := h4 i hi
  have fc : ∀ j, I' (ca i) j = I (ca i) j := fun j => f _ j (Or.inr (Or.inr (Or.inr (Or.inr (hca i hi)))))
  exact ⟨g1, g2, g3, g4, (fc 0).trans g5, (fc 1).trans g6, (f 35 i (Or.inr (Or.inr (Or.inl rfl)))).trans g7, (f 36 i (Or.inr (Or.inr (Or.inr (Or.inl rfl))))).trans g8⟩
theorem tIv.g {I I' : px_HI} {R : px_HR} {S : px_HS} {tc : Nat} {ta ua wa tz : Nat → Nat} (h : tIv I R S tc ta ua wa tz) (hta : ∀ t, t < tc → ta t = 28 ∨ 49 ≤ ta t) (f : ∀ a j, tFt a j → I' a j = I a j) : tIv I' R S tc ta ua wa tz := by
  obtain ⟨h1, h2, h3, h4, h5⟩ := h
  have e32 : ∀ j, I' 32 j = I 32 j := fun j => f 32 j (Or.inr (Or.inr (Or.inl rfl)))
  refine ⟨h1, h2, (f 0 9 (Or.inl ⟨rfl, rfl⟩)).trans h3, (f 31 3 (Or.inr (Or.inl ⟨rfl, rfl⟩))).trans h4, fun t ht => ?_⟩
  obtain ⟨g1, g2, g3, g4, g5, g6, g7, g8⟩ := h5 t ht
  have eb : (fun j => I' 32 (160 * t + j)) = fun j => I 32 (160 * t + j) := funext (fun j => e32 _)
  refine ⟨g1, ?_, (f 33 t (Or.inr (Or.inr (Or.inr (Or.inl rfl))))).trans g3, g4, fun j hj => by rw [e32]; exact g5 j hj, g6, g7, g8⟩
  rw [eb]
  obtain ⟨k1, k2, k3, k4, k5, k6, k7, k8, k9, k10, k11⟩ := g2
  have ft : ∀ j, I' (ta t) j = I (ta t) j := fun j => f _ j (by unfold tFt; have := hta t ht; omega)
  have fu : ∀ j, I' (ua t) j = I (ua t) j := fun j => f _ j (by unfold tFt; omega)
  exact ⟨k1, k2, k3, k4, k5, k6, k7, (ft 1).trans k8, (ft 2).trans k9, fun j hj => (fu j).trans (k10 j hj), k11⟩
/-- all that the law's loop keeps -/
def Inv (xs : Nat → Int32) (L : Nat) (so : Option Nat) (dr : px_HR) (ds : px_HS) (I : px_HI) (n : Nat) (cc tc rl sg tp : Nat) (ca kd nb ta ua wa tz : Nat → Nat) : Prop := rl < tc ∧ hIv I rl sg ∧ cIv I (dR so dr) (dS L ds) cc ca kd nb ∧ tIv I (dR so dr) (dS L ds) tc ta ua wa tz ∧ pIv I tp ∧ kIv I cc tc ∧ sIv I ∧ (∀ a j, 1000000 ≤ a → I a j = px_I0 xs a j) ∧ 49 ≤ n ∧ n < 1000000 ∧ (∀ i, i < cc → 49 ≤ ca i ∧ ca i < n) ∧ (∀ i j, i < cc → j < cc → ca i = ca j → i = j) ∧ ∀ t, t < tc → (ta t = 28 ∨ 49 ≤ ta t) ∧ ta t < n ∧ ua t < n ∧ wa t < n
section PXI1
variable {d n q L cc tc rl sg tp : Nat} {so : Option Nat} {dr : px_HR} {ds : px_HS} {I : px_HI} {J : px_HJ} {xs : Nat → Int32} {ca kd nb ta ua wa tz : Nat → Nat}
/-- hush, on both sides: the pattern of a call -/
theorem o_hush (h : Inv xs L so dr ds I n cc tc rl sg tp ca kd nb ta ua wa tz) : ∃ I1 I2 v, px_mt (d + 1) 59 [.ref 0] I J (dR so dr) (dS L ds) n q (some (.int v), I1, J, dR so dr, dS L ds, n, q) ∧ px_mt (d + 1) 148 [.ref 31] I1 J (dR so dr) (dS L ds) n q (some (.int v), I2, J, dR so dr, dS L ds, n, q) ∧ Inv xs L so dr ds I2 n cc tc rl 0 tp ca kd nb ta ua wa tz := by
  obtain ⟨h0, h1, h2, h3, h4, h5, h6, h7, h8, h9, h10, h11, h12⟩ := h
  refine ⟨px_u I 2 6 0, px_u (px_u I 2 6 0) 31 16 0, nI sg, ?_, ?_, h0, ?_, h2.g (fun i hi => (h10 i hi).1) (fun a j g => ?_), h3.g (fun t ht => (h12 t ht).1) (fun a j g => ?_), h4.fr (fun a j g => ?_), h5.fr (fun a j g => ?_), h6.fr (fun a j g => ?_), fun a j g => ?_, h8, h9, h10, h11, h12⟩
  · unfold px_mt
    repeat refine e_s rfl ?_
    rw [h1.2.2.2.2.2.2.2.1]
    exact e_r rfl
  · unfold px_mt
    repeat refine e_s rfl ?_
    rw [show px_u I 2 6 0 31 16 = nI sg from h1.2.2.2.2.2.2.2.2.1]
    exact e_r rfl
  · obtain ⟨a1, a2, a3, a4, a5, a6, a7, a8, a9, a10, a11⟩ := h1
    exact ⟨a1, a2, a3, a4, a5, a6, a7, rfl, rfl, by decide, a11⟩
  · unfold cFt at g
    rw [u_ne (fun e => by omega), u_ne (fun e => by omega)]
  · unfold tFt at g
    rw [u_ne (fun e => by omega), u_ne (fun e => by omega)]
  · unfold pFt at g
    rw [u_ne (fun e => by omega), u_ne (fun e => by omega)]
  · unfold kFt at g
    rw [u_ne (fun e => by omega), u_ne (fun e => by omega)]
  · unfold sFt at g
    rw [u_ne (fun e => by omega), u_ne (fun e => by omega)]
  · rw [u_ne (fun e => by omega), u_ne (fun e => by omega)]
    exact h7 a j g
end PXI1
