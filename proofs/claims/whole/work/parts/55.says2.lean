/-! what a text says of a caller, on both sides -/
def mFr3 (I I' : px_HI) (J J' : px_HJ) : Prop := (∀ a j, (a = 31 → j < 17 ∨ 31 < j) → I' a j = I a j) ∧ ∀ a j, (a = 31 → j ≠ 28) → J' a j = J a j
def bnd (wh : Nat) : Int32 × Int32 := match wh with
  | 0 => (0, 999)
  | 1 => (-99, 99)
  | _ => (0, 99)
section PXV3
variable {d D n q L sc rl tc c h : Nat} {so : Option Nat} {I : px_HI} {J : px_HJ} {dr : px_HR} {ds : px_HS} {who x : Int32} {ta ua wa tz : Nat → Nat}
theorem r_comes {k : Nat} (hT : tIv I (dR so dr) (dS L ds) tc ta ua wa tz) (hSc : dS L ds sc = (17, 8)) (hr : I sc 5 = nI rl) (hrl : rl < tc) (hsc : sc < 10) (hk : k ≤ 5) (hC : dS L ds c = (cls k, 2)) : ∃ I', px_mt (d + 4) 85 [.ref 0, .ref sc, .ref c, .int who] I J (dR so dr) (dS L ds) n q (some (.int (clp 0 999 (tV I tz rl 0 (nmE (I sc 0) (I sc 1) (I c 0) (I sc 2) (I sc 6) who)))), I', J, dR so dr, dS L ds, n, q) ∧ ∀ a j, a ≠ wa rl → I' a j = I a j := by
  obtain ⟨I', hr1, hf1⟩ := r_valOf (d := d) (n := n) (q := q) (J := J) (wh := 0) (sort := I c 0) (who := who) hT hSc hr hrl (by decide) hsc
  refine ⟨I', ?_, hf1⟩
  unfold px_mt
  repeat refine e_s rfl ?_
  refine e_gi rfl hC (by rcases (show k = 0 ∨ k = 1 ∨ k = 2 ∨ k = 3 ∨ k = 4 ∨ k = 5 by omega) with rfl | rfl | rfl | rfl | rfl | rfl <;> rfl) ?_
  refine e_s rfl ?_
  refine e_c rfl hr1 (by omega) ?_
  refine e_c rfl (r_within (d := d) (by decide)) (by omega) ?_
  exact e_r rfl
theorem r_worth {k : Nat} (hT : tIv I (dR so dr) (dS L ds) tc ta ua wa tz) (hSc : dS L ds sc = (17, 8)) (hr : I sc 5 = nI rl) (hrl : rl < tc) (hsc : sc < 10) (hk : k ≤ 5) (hC : dS L ds c = (cls k, 2)) : ∃ I', px_mt (d + 4) 94 [.ref 0, .ref sc, .ref c, .int who] I J (dR so dr) (dS L ds) n q (some (.int (clp (-99) 99 (tV I tz rl 1 (nmE (I sc 0) (I sc 1) (I c 0) (I sc 2) (I sc 6) who)))), I', J, dR so dr, dS L ds, n, q) ∧ ∀ a j, a ≠ wa rl → I' a j = I a j := by
  obtain ⟨I', hr1, hf1⟩ := r_valOf (d := d) (n := n) (q := q) (J := J) (wh := 1) (sort := I c 0) (who := who) hT hSc hr hrl (by decide) hsc
  refine ⟨I', ?_, hf1⟩
  unfold px_mt
  repeat refine e_s rfl ?_
  refine e_gi rfl hC (by rcases (show k = 0 ∨ k = 1 ∨ k = 2 ∨ k = 3 ∨ k = 4 ∨ k = 5 by omega) with rfl | rfl | rfl | rfl | rfl | rfl <;> rfl) ?_
  refine e_s rfl ?_
  refine e_c rfl hr1 (by omega) ?_
  refine e_c rfl (r_within (d := d) (by decide)) (by omega) ?_
  exact e_r rfl
theorem r_costs (hT : tIv I (dR so dr) (dS L ds) tc ta ua wa tz) (hSc : dS L ds sc = (17, 8)) (hr : I sc 5 = nI rl) (hrl : rl < tc) (hsc : sc < 10) : ∃ I', px_mt (d + 3) 86 [.ref 0, .int 2, .ref sc, .int 0, .int 0] I J (dR so dr) (dS L ds) n q (some (.int (tV I tz rl 2 (nmE (I sc 0) (I sc 1) 0 (I sc 2) (I sc 6) 0))), I', J, dR so dr, dS L ds, n, q) ∧ ∀ a j, a ≠ wa rl → I' a j = I a j := r_valOf (d := d) (wh := 2) hT hSc hr hrl (by decide) hsc
theorem r_says0 (hD : 80 ≤ D) (hT : tIv I (dR so dr) (dS L ds) tc ta ua wa tz) (hr : I 31 4 = nI rl) (hrl : rl < tc) (hc : c < 7) : ∃ I' J', px_mt D 204 [.ref 31, .int 0, .int (nI c), .int x] I J (dR so dr) (dS L ds) n q (some (.int (clp 0 999 (tV I tz rl 0 (nmE x (I 31 8) (I 35 c) (I 31 9) (I 31 16) (nI c))))), I', J', dR so dr, dS L ds, n, q) ∧ mFr3 I I' J J' := by
  obtain ⟨D, rfl⟩ : ∃ y, D = y + 2 := ⟨D - 2, by omega⟩
  obtain ⟨h1, h2, h3, h4, h5⟩ := hT
  obtain ⟨g1, g2, g3, g4, g5, g6, g7⟩ := h5 rl hrl
  obtain ⟨I', J', v, hr1, hf1, hA, _⟩ := r_readM (D := D + 1) (t := rl) (wh := 0) (z := tz rl) (n := n) (q := q) (so := so) (dr := dr) (L := L) (ds := ds) (J := J) (I := px_u (px_u (px_u (px_u (px_u (px_u I 31 17 x) 31 18 (I 31 8)) 31 19 (I 35 c)) 31 20 (I 31 9)) 31 21 (I 31 16)) 31 22 (nI c)) (by omega) (by omega) (by decide) g3 g4 g5
  obtain ⟨_, hv⟩ := hA g2.2.2.2.2.2.2.2.2.2.2
  have hv2 : v = tV I tz rl 0 (nmE x (I 31 8) (I 35 c) (I 31 9) (I 31 16) (nI c)) := hv
  refine ⟨I', J', ?_, fun a j g => ?_, hf1.2⟩
  rotate_left
  · rw [hf1.1 a j (fun e => by have := g e; omega), u_ne (fun e => by have := g e; omega), u_ne (fun e => by have := g e; omega), u_ne (fun e => by have := g e; omega), u_ne (fun e => by have := g e; omega), u_ne (fun e => by have := g e; omega), u_ne (fun e => by have := g e; omega)]
  rw [← hv2]
  unfold px_mt
  repeat refine e_s rfl ?_
  refine e_ia rfl rfl rfl hc (by decide) ?_
  repeat refine e_s rfl ?_
  show px_ev (D + 2) 204 68 [some (.ref 31), some (.int 0), some (.int (nI c)), some (.int x), none] [.int 0, .int (I 31 4), .ref 31] (px_u (px_u (px_u (px_u (px_u (px_u I 31 17 x) 31 18 (I 31 8)) 31 19 (I 35 c)) 31 20 (I 31 9)) 31 21 (I 31 16)) 31 22 (nI c)) J (dR so dr) (dS L ds) n q _
  rw [hr]
  refine e_c rfl hr1 (by omega) ?_
  repeat refine e_s rfl ?_
  refine e_c rfl (r_withinM (d := D)) (by omega) ?_
  repeat refine e_s rfl ?_
  exact e_r rfl
theorem r_says1 (hD : 80 ≤ D) (hT : tIv I (dR so dr) (dS L ds) tc ta ua wa tz) (hr : I 31 4 = nI rl) (hrl : rl < tc) (hc : c < 7) : ∃ I' J', px_mt D 204 [.ref 31, .int 1, .int (nI c), .int x] I J (dR so dr) (dS L ds) n q (some (.int (clp (-99) 99 (tV I tz rl 1 (nmE x (I 31 8) (I 35 c) (I 31 9) (I 31 16) (nI c))))), I', J', dR so dr, dS L ds, n, q) ∧ mFr3 I I' J J' := by
  obtain ⟨D, rfl⟩ : ∃ y, D = y + 2 := ⟨D - 2, by omega⟩
  obtain ⟨h1, h2, h3, h4, h5⟩ := hT
  obtain ⟨g1, g2, g3, g4, g5, g6, g7⟩ := h5 rl hrl
  obtain ⟨I', J', v, hr1, hf1, hA, _⟩ := r_readM (D := D + 1) (t := rl) (wh := 1) (z := tz rl) (n := n) (q := q) (so := so) (dr := dr) (L := L) (ds := ds) (J := J) (I := px_u (px_u (px_u (px_u (px_u (px_u I 31 17 x) 31 18 (I 31 8)) 31 19 (I 35 c)) 31 20 (I 31 9)) 31 21 (I 31 16)) 31 22 (nI c)) (by omega) (by omega) (by decide) g3 g4 g5
  obtain ⟨_, hv⟩ := hA g2.2.2.2.2.2.2.2.2.2.2
  have hv2 : v = tV I tz rl 1 (nmE x (I 31 8) (I 35 c) (I 31 9) (I 31 16) (nI c)) := hv
  refine ⟨I', J', ?_, fun a j g => ?_, hf1.2⟩
  rotate_left
  · rw [hf1.1 a j (fun e => by have := g e; omega), u_ne (fun e => by have := g e; omega), u_ne (fun e => by have := g e; omega), u_ne (fun e => by have := g e; omega), u_ne (fun e => by have := g e; omega), u_ne (fun e => by have := g e; omega), u_ne (fun e => by have := g e; omega)]
  rw [← hv2]
  unfold px_mt
  repeat refine e_s rfl ?_
  refine e_ia rfl rfl rfl hc (by decide) ?_
  repeat refine e_s rfl ?_
  show px_ev (D + 2) 204 68 [some (.ref 31), some (.int 1), some (.int (nI c)), some (.int x), none] [.int 1, .int (I 31 4), .ref 31] (px_u (px_u (px_u (px_u (px_u (px_u I 31 17 x) 31 18 (I 31 8)) 31 19 (I 35 c)) 31 20 (I 31 9)) 31 21 (I 31 16)) 31 22 (nI c)) J (dR so dr) (dS L ds) n q _
  rw [hr]
  refine e_c rfl hr1 (by omega) ?_
  repeat refine e_s rfl ?_
  refine e_c rfl (r_withinM (d := D)) (by omega) ?_
  repeat refine e_s rfl ?_
  exact e_r rfl
theorem r_says2 (hD : 80 ≤ D) (hT : tIv I (dR so dr) (dS L ds) tc ta ua wa tz) (hr : I 31 4 = nI rl) (hrl : rl < tc) (hc : c < 7) : ∃ I' J', px_mt D 204 [.ref 31, .int 2, .int (nI c), .int x] I J (dR so dr) (dS L ds) n q (some (.int (clp 0 99 (tV I tz rl 2 (nmE x (I 31 8) 0 (I 31 9) (I 31 16) 0)))), I', J', dR so dr, dS L ds, n, q) ∧ mFr3 I I' J J' := by
  obtain ⟨D, rfl⟩ : ∃ y, D = y + 2 := ⟨D - 2, by omega⟩
  obtain ⟨h1, h2, h3, h4, h5⟩ := hT
  obtain ⟨g1, g2, g3, g4, g5, g6, g7⟩ := h5 rl hrl
  obtain ⟨I', J', v, hr1, hf1, hA, _⟩ := r_readM (D := D + 1) (t := rl) (wh := 2) (z := tz rl) (n := n) (q := q) (so := so) (dr := dr) (L := L) (ds := ds) (J := J) (I := px_u (px_u (px_u (px_u (px_u (px_u I 31 17 x) 31 18 (I 31 8)) 31 19 0) 31 20 (I 31 9)) 31 21 (I 31 16)) 31 22 0) (by omega) (by omega) (by decide) g3 g4 g5
  obtain ⟨_, hv⟩ := hA g2.2.2.2.2.2.2.2.2.2.2
  have hv2 : v = tV I tz rl 2 (nmE x (I 31 8) 0 (I 31 9) (I 31 16) 0) := hv
  refine ⟨I', J', ?_, fun a j g => ?_, hf1.2⟩
  rotate_left
  · rw [hf1.1 a j (fun e => by have := g e; omega), u_ne (fun e => by have := g e; omega), u_ne (fun e => by have := g e; omega), u_ne (fun e => by have := g e; omega), u_ne (fun e => by have := g e; omega), u_ne (fun e => by have := g e; omega), u_ne (fun e => by have := g e; omega)]
  rw [← hv2]
  unfold px_mt
  repeat refine e_s rfl ?_
  show px_ev (D + 2) 204 68 [some (.ref 31), some (.int 2), some (.int (nI c)), some (.int x), none] [.int 2, .int (I 31 4), .ref 31] (px_u (px_u (px_u (px_u (px_u (px_u I 31 17 x) 31 18 (I 31 8)) 31 19 0) 31 20 (I 31 9)) 31 21 (I 31 16)) 31 22 0) J (dR so dr) (dS L ds) n q _
  rw [hr]
  refine e_c rfl hr1 (by omega) ?_
  repeat refine e_s rfl ?_
  refine e_c rfl (r_withinM (d := D)) (by omega) ?_
  repeat refine e_s rfl ?_
  exact e_r rfl
end PXV3
