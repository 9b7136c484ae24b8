/-! reckon() of the class -/
def rkF (w : Nat) (I I' : px_HI) : Prop := ∀ a j, a ≠ w → a ≠ 18 → (a = 0 → j ≠ 14) → I' a j = I a j
theorem tIv.fr {I I' : px_HI} {so : Option Nat} {dr : px_HR} {L : Nat} {ds : px_HS} {tc rl : Nat} {ta ua wa tz : Nat → Nat} (h : tIv I (dR so dr) (dS L ds) tc ta ua wa tz) (hrl : rl < tc) (f : rkF (wa rl) I I') : tIv I' (dR so dr) (dS L ds) tc ta ua wa tz := by
  obtain ⟨h1, h2, h3, h4, h5⟩ := h
  have hw := (h5 rl hrl).2.2.2.2.2.1
  have hwS := (h5 rl hrl).2.1.2.2.2.2.1
  have e32 : ∀ j, I' 32 j = I 32 j := fun j => f 32 j (by omega) (by decide) (fun e => absurd e (by decide))
  refine ⟨h1, h2, (f 0 9 (by omega) (by decide) (fun _ => by decide)).trans h3, (f 31 3 (by omega) (by decide) (fun e => absurd e (by decide))).trans h4, fun t ht => ?_⟩
  obtain ⟨g1, g2, g3, g4, g5, g6, g7, g8⟩ := h5 t ht
  have eb : (fun j => I' 32 (160 * t + j)) = fun j => I 32 (160 * t + j) := funext (fun j => e32 _)
  refine ⟨g1, ?_, (f 33 t (by omega) (by decide) (fun e => absurd e (by decide))).trans g3, g4, fun j hj => by rw [e32]; exact g5 j hj, g6, g7, g8⟩
  rw [eb]
  obtain ⟨k1, k2, k3, k4, k5, k6, k7, k8, k9, k10, k11⟩ := g2
  have ne1 : ta t ≠ wa rl := fun e => by rw [e, hwS] at k1; exact absurd (Prod.mk.inj k1).1 (by decide)
  have ne2 : ta t ≠ 18 := fun e => by rw [e] at k1; exact absurd (Prod.mk.inj (show ((100, 7) : Nat × Nat) = (20, 4) from k1)).1 (by decide)
  have ne3 : ¬ ta t = 0 := fun e => by rw [e] at k1; exact absurd (Prod.mk.inj (show ((21, 16) : Nat × Nat) = (20, 4) from k1)).1 (by decide)
  exact ⟨k1, k2, k3, k4, k5, k6, k7, (f (ta t) 1 ne1 ne2 (fun e => absurd e ne3)).trans k8, (f (ta t) 2 ne1 ne2 (fun e => absurd e ne3)).trans k9, fun j hj => (f (ua t) j ((h5 rl hrl).2.2.2.2.2.2.2 t ht) (by omega) (fun e => by omega)).trans (k10 j hj), k11⟩
theorem cIv.fr {I I' : px_HI} {so : Option Nat} {dr : px_HR} {L : Nat} {ds : px_HS} {w len cc : Nat} {ca kd nb : Nat → Nat} (h : cIv I (dR so dr) (dS L ds) cc ca kd nb) (hw : w = 30 ∨ 49 ≤ w) (hwS : dS L ds w = (100, len)) (f : rkF w I I') : cIv I' (dR so dr) (dS L ds) cc ca kd nb := by
  obtain ⟨h1, h2, h3, h4⟩ := h
  refine ⟨h1, (f 0 1 (by omega) (by decide) (fun _ => by decide)).trans h2, (f 31 14 (by omega) (by decide) (fun e => absurd e (by decide))).trans h3, fun i hi => ?_⟩
  obtain ⟨g1, g2, g3, g4, g5, g6, g7, g8⟩ := h4 i hi
  have hcl : 10 ≤ cls (kd i) ∧ cls (kd i) ≤ 15 := by unfold cls; split <;> decide
  have ne1 : ca i ≠ w := fun e => by rw [e, hwS] at g2; have := (Prod.mk.inj g2).1; omega
  have ne2 : ca i ≠ 18 := fun e => by rw [e] at g2; have := (Prod.mk.inj (show ((100, 7) : Nat × Nat) = _ from g2)).1; omega
  have ne3 : ¬ ca i = 0 := fun e => by rw [e] at g2; have := (Prod.mk.inj (show ((21, 16) : Nat × Nat) = _ from g2)).1; omega
  exact ⟨g1, g2, g3, g4, (f _ 0 ne1 ne2 (fun e => absurd e ne3)).trans g5, (f _ 1 ne1 ne2 (fun e => absurd e ne3)).trans g6, (f 35 i (by omega) (by decide) (fun e => absurd e (by decide))).trans g7, (f 36 i (by omega) (by decide) (fun e => absurd e (by decide))).trans g8⟩
/-- weight, worth and their sum, in the scene with these parts -/
def gW (I : px_HI) (tz kd nb : Nat → Nat) (h d hm dg nt : Int32) (rl sg : Nat) (hrd : Nat → Int32) (i : Nat) : Int64 := wSp (kd i) (nI (nb i)) hrd sg (sty (kd i) dg nt) (clp 0 999 (tV I tz rl 0 (nmE h d (nI (kd i)) hm (nI sg) (nI i))))
def gX (I : px_HI) (tz kd : Nat → Nat) (h d hm : Int32) (rl sg : Nat) (i : Nat) : Int32 := clp (-99) 99 (tV I tz rl 1 (nmE h d (nI (kd i)) hm (nI sg) (nI i)))
def gA (W : Nat → Int64) : Nat → Int64
  | 0 => 0
  | k + 1 => gA W k + W k
section PXK1
variable {d n q L sc hs sg rl tc cc : Nat} {so : Option Nat} {dr : px_HR} {ds : px_HS} {ta ua wa tz ca kd nb : Nat → Nat} {I0 : px_HI}
theorem r_callerAt {I : px_HI} {J : px_HJ} {i : Nat} (hC : cIv I (dR so dr) (dS L ds) cc ca kd nb) (hi : i < cc) : px_mt (d + 2) 45 [.ref 0, .int (nI i)] I J (dR so dr) (dS L ds) n q (some (.ref (ca i)), I, J, dR so dr, dS L ds, n, q) := by
  obtain ⟨h1, h2, h3, h4⟩ := hC
  unfold px_mt
  repeat refine e_s rfl ?_
  rw [h2]
  refine e_c rfl (r_below (d := d)) (by omega) ?_
  rw [bI_t ⟨nI_pos' (by omega), nI_lt hi (by omega)⟩]
  repeat refine e_s rfl ?_
  refine e_bf (nI_ge (b := 7) (by omega) (by decide)) ?_
  repeat refine e_s rfl ?_
  refine e_aa rfl rfl rfl (show i < 7 by omega) (by decide) (h4 i hi).1 ?_
  refine e_s rfl ?_
  exact e_r rfl
theorem r_callerNo {I : px_HI} {J : px_HJ} {x : Int32} (hC : cIv I (dR so dr) (dS L ds) cc ca kd nb) (hx : x < 0 ∨ nI cc ≤ x) : px_mt (d + 2) 45 [.ref 0, .int x] I J (dR so dr) (dS L ds) n q (some .null, I, J, dR so dr, dS L ds, n, q) := by
  obtain ⟨h1, h2, h3, h4⟩ := hC
  unfold px_mt
  repeat refine e_s rfl ?_
  rw [h2]
  refine e_c rfl (r_below (d := d)) (by omega) ?_
  rw [bI_f (fun c => hx.elim (fun g => Int32.not_le.mpr g c.1) (fun g => Int32.not_le.mpr c.2 g))]
  repeat refine e_s rfl ?_
  exact e_r rfl
end PXK1
