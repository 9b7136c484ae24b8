/-! the law's loop -/
def StL (xs : Nat → Int32) (L : Nat) (so : Option Nat) (dr : px_HR) (ds : px_HS) (I : px_HI) (n : Nat) : Prop := ∃ cc tc rl sg tp ca kd nb ta ua wa tz, Inv xs L so dr ds I n cc tc rl sg tp ca kd nb ta ua wa tz
def OkC (V : Value) (xs : Nat → Int32) (L : Nat) (so : Option Nat) (m1 m2 : Nat) (as : List Value) (dr : px_HR) (ds : px_HS) (I : px_HI) (J : px_HJ) (n q : Nat) : Prop := ∃ I1 J1 I2 J2 n' q' dr' ds', n' ≤ n + 3 ∧ q' ≤ q + 324 ∧ px_mt 799 m1 (.ref 0 :: as) I J (dR so dr) (dS L ds) n q (some V, I1, J1, dR so dr', dS L ds', n', q') ∧ px_mt 799 m2 (.ref 31 :: as) I1 J1 (dR so dr') (dS L ds') n' q' (some V, I2, J2, dR so dr', dS L ds', n', q') ∧ StL xs L so dr' ds' I2 n'
section PXLL
variable {L n q t : Nat} {so : Option Nat} {dr : px_HR} {ds : px_HS} {I : px_HI} {J : px_HJ} {xs : Nat → Int32} {x y z v w : Int32}
theorem k_set (h : StL xs L so dr ds I n) (hn : n + 3 < 1000000) : ∃ v' : Int32, OkC (.int v') xs L so 43 143 [.int x, .int y, .int v] dr ds I J n q := by
  obtain ⟨cc, tc, rl, sg, tp, ca, kd, nb, ta, ua, wa, tz, h⟩ := h
  obtain ⟨I1, I2, v', rl', sg', nb', r1, r2, r3⟩ := o_set (d := 0) (q := q) (J := J) (x := x) (y := y) (v := v) h
  exact ⟨v', I1, J, I2, J, n, q, dr, ds, by omega, by omega, r1.mono (by omega), r2.mono (by omega), _, _, _, _, _, _, _, _, _, _, _, _, r3⟩
theorem k_caller (h : StL xs L so dr ds I n) (hn : n + 3 < 1000000) : ∃ v' : Int32, OkC (.int v') xs L so 49 146 [.int x, .int y] dr ds I J n q := by
  obtain ⟨cc, tc, rl, sg, tp, ca, kd, nb, ta, ua, wa, tz, h⟩ := h
  obtain ⟨I1, J1, I2, v', n', q', dr', ds', cc', ca', kd', nb', e1, e2, r1, r2, r3⟩ := o_caller (d := 0) (q := q) (J := J) (x := x) (y := y) h (by omega)
  exact ⟨v', I1, J1, I2, J1, n', q', dr', ds', by omega, by omega, r1.mono (by omega), r2.mono (by omega), _, _, _, _, _, _, _, _, _, _, _, _, r3⟩
theorem k_hear (h : StL xs L so dr ds I n) (hn : n + 3 < 1000000) : ∃ v' : Int32, OkC (.int v') xs L so 57 147 [.int x] dr ds I J n q := by
  obtain ⟨cc, tc, rl, sg, tp, ca, kd, nb, ta, ua, wa, tz, h⟩ := h
  obtain ⟨I1, I2, v', sg', r1, r2, r3⟩ := o_hear (d := 0) (q := q) (J := J) (x := x) h
  exact ⟨v', I1, J, I2, J, n, q, dr, ds, by omega, by omega, r1.mono (by omega), r2.mono (by omega), _, _, _, _, _, _, _, _, _, _, _, _, r3⟩
theorem k_hush (h : StL xs L so dr ds I n) (hn : n + 3 < 1000000) : ∃ v' : Int32, OkC (.int v') xs L so 59 148 [] dr ds I J n q := by
  obtain ⟨cc, tc, rl, sg, tp, ca, kd, nb, ta, ua, wa, tz, h⟩ := h
  obtain ⟨I1, I2, v', r1, r2, r3⟩ := o_hush (d := 0) (q := q) (J := J) h
  exact ⟨v', I1, J, I2, J, n, q, dr, ds, by omega, by omega, r1.mono (by omega), r2.mono (by omega), _, _, _, _, _, _, _, _, _, _, _, _, r3⟩
theorem k_told (h : StL xs L so dr ds I n) (hn : n + 3 < 1000000) : ∃ v' : Int32, OkC (.int v') xs L so 60 149 [.int x, .int y] dr ds I J n q := by
  obtain ⟨cc, tc, rl, sg, tp, ca, kd, nb, ta, ua, wa, tz, h⟩ := h
  obtain ⟨v', r1, r2⟩ := o_told (d := 0) (q := q) (J := J) (x := x) (y := y) h
  exact ⟨v', I, J, I, J, n, q, dr, ds, by omega, by omega, r1.mono (by omega), r2.mono (by omega), _, _, _, _, _, _, _, _, _, _, _, _, h⟩
theorem k_feed (h : StL xs L so dr ds I n) (hn : n + 3 < 1000000) : ∃ v' : Int32, OkC (.int v') xs L so 79 153 [.int x] dr ds I J n q := by
  obtain ⟨cc, tc, rl, sg, tp, ca, kd, nb, ta, ua, wa, tz, h⟩ := h
  obtain ⟨I1, I2, v', tp', r1, r2, r3⟩ := o_feed (d := 0) (q := q) (J := J) (x := x) h
  exact ⟨v', I1, J, I2, J, n, q, dr, ds, by omega, by omega, r1.mono (by omega), r2.mono (by omega), _, _, _, _, _, _, _, _, _, _, _, _, r3⟩
theorem k_text (h : StL xs L so dr ds I n) (hn : n + 3 < 1000000) : ∃ v' : Int32, OkC (.int v') xs L so 80 154 [] dr ds I J n q := by
  obtain ⟨cc, tc, rl, sg, tp, ca, kd, nb, ta, ua, wa, tz, h⟩ := h
  obtain ⟨I1, J1, I2, J2, v', n', q', dr', ds', tc', tp', ta', ua', wa', tz', e1, e2, r1, r2, r3⟩ := o_text (d := 0) (q := q) (J := J) h hn
  exact ⟨v', I1, J1, I2, J2, n', q', dr', ds', e1, e2, r1.mono (by omega), r2.mono (by omega), _, _, _, _, _, _, _, _, _, _, _, _, r3⟩
theorem k_force (h : StL xs L so dr ds I n) (hn : n + 3 < 1000000) : ∃ v' : Int32, OkC (.int v') xs L so 81 201 [.int x] dr ds I J n q := by
  obtain ⟨cc, tc, rl, sg, tp, ca, kd, nb, ta, ua, wa, tz, h⟩ := h
  obtain ⟨I1, I2, v', rl', r1, r2, r3⟩ := o_force (d := 0) (q := q) (J := J) (x := x) h
  exact ⟨v', I1, J, I2, J, n, q, dr, ds, by omega, by omega, r1.mono (by omega), r2.mono (by omega), _, _, _, _, _, _, _, _, _, _, _, _, r3⟩
theorem k_weight (h : StL xs L so dr ds I n) (hn : n + 3 < 1000000) : ∃ v' : Int64, OkC (.long v') xs L so 82 202 [.int x] dr ds I J n q := by
  obtain ⟨cc, tc, rl, sg, tp, ca, kd, nb, ta, ua, wa, tz, h⟩ := h
  obtain ⟨I1, J1, I2, J2, v', r1, r2, r3⟩ := o_weight (D := 0) (q := q) (J := J) (x := x) h
  exact ⟨v', I1, J1, I2, J2, n, q, dr, ds, by omega, by omega, r1.mono (by omega), r2.mono (by omega), _, _, _, _, _, _, _, _, _, _, _, _, r3⟩
theorem k_who (h : StL xs L so dr ds I n) (hn : n + 3 < 1000000) : ∃ v' : Int32, OkC (.int v') xs L so 95 206 [] dr ds I J n q := by
  obtain ⟨cc, tc, rl, sg, tp, ca, kd, nb, ta, ua, wa, tz, h⟩ := h
  obtain ⟨I1, J1, I2, J2, v', r1, r2, r3⟩ := o_who (D := 0) (q := q) (J := J) h
  exact ⟨v', I1, J1, I2, J2, n, q, dr, ds, by omega, by omega, r1.mono (by omega), r2.mono (by omega), _, _, _, _, _, _, _, _, _, _, _, _, r3⟩
theorem k_odds (h : StL xs L so dr ds I n) (hn : n + 3 < 1000000) : ∃ v' : Int64, OkC (.long v') xs L so 97 208 [.int x, .int y] dr ds I J n q := by
  obtain ⟨cc, tc, rl, sg, tp, ca, kd, nb, ta, ua, wa, tz, h⟩ := h
  obtain ⟨I1, J1, I2, J2, v', r1, r2, r3⟩ := o_odds (D := 0) (q := q) (J := J) (x := x) (y := y) h
  exact ⟨v', I1, J1, I2, J2, n, q, dr, ds, by omega, by omega, r1.mono (by omega), r2.mono (by omega), _, _, _, _, _, _, _, _, _, _, _, _, r3⟩
theorem k_gain (h : StL xs L so dr ds I n) (hn : n + 3 < 1000000) : ∃ v' : Int64, OkC (.long v') xs L so 100 210 [.int x] dr ds I J n q := by
  obtain ⟨cc, tc, rl, sg, tp, ca, kd, nb, ta, ua, wa, tz, h⟩ := h
  obtain ⟨I1, J1, I2, J2, v', r1, r2, r3⟩ := o_gain (D := 0) (q := q) (J := J) (x := x) h
  exact ⟨v', I1, J1, I2, J2, n, q, dr, ds, by omega, by omega, r1.mono (by omega), r2.mono (by omega), _, _, _, _, _, _, _, _, _, _, _, _, r3⟩
theorem k_open (h : StL xs L so dr ds I n) (hn : n + 3 < 1000000) : ∃ v' : Int32, OkC (.int v') xs L so 102 212 [] dr ds I J n q := by
  obtain ⟨cc, tc, rl, sg, tp, ca, kd, nb, ta, ua, wa, tz, h⟩ := h
  obtain ⟨I1, J1, I2, J2, v', r1, r2, r3⟩ := o_open (D := 0) (q := q) (J := J) h
  exact ⟨v', I1, J1, I2, J2, n, q, dr, ds, by omega, by omega, r1.mono (by omega), r2.mono (by omega), _, _, _, _, _, _, _, _, _, _, _, _, r3⟩
theorem k_peep (h : StL xs L so dr ds I n) (hn : n + 3 < 1000000) : ∃ v' : Int64, OkC (.long v') xs L so 103 213 [.int x, .int y] dr ds I J n q := by
  obtain ⟨cc, tc, rl, sg, tp, ca, kd, nb, ta, ua, wa, tz, h⟩ := h
  obtain ⟨I1, J1, I2, J2, v', r1, r2, r3⟩ := o_peep (D := 0) (q := q) (J := J) (x := x) (y := y) h
  exact ⟨v', I1, J1, I2, J2, n, q, dr, ds, by omega, by omega, r1.mono (by omega), r2.mono (by omega), _, _, _, _, _, _, _, _, _, _, _, _, r3⟩
theorem k_tells (h : StL xs L so dr ds I n) (hn : n + 3 < 1000000) : ∃ v' : Int32, OkC (.int v') xs L so 106 214 [] dr ds I J n q := by
  obtain ⟨cc, tc, rl, sg, tp, ca, kd, nb, ta, ua, wa, tz, h⟩ := h
  obtain ⟨I1, J1, I2, J2, v', r1, r2, r3⟩ := o_tells (D := 0) (q := q) (J := J) h
  exact ⟨v', I1, J1, I2, J2, n, q, dr, ds, by omega, by omega, r1.mono (by omega), r2.mono (by omega), _, _, _, _, _, _, _, _, _, _, _, _, r3⟩
theorem k_guard (h : StL xs L so dr ds I n) (hn : n + 3 < 1000000) : ∃ v' : Int64, OkC (.long v') xs L so 108 215 [.int x] dr ds I J n q := by
  obtain ⟨cc, tc, rl, sg, tp, ca, kd, nb, ta, ua, wa, tz, h⟩ := h
  obtain ⟨I1, J1, I2, J2, v', r1, r2, r3⟩ := o_guard (D := 0) (q := q) (J := J) (x := x) h
  exact ⟨v', I1, J1, I2, J2, n, q, dr, ds, by omega, by omega, r1.mono (by omega), r2.mono (by omega), _, _, _, _, _, _, _, _, _, _, _, _, r3⟩
theorem k_home (h : StL xs L so dr ds I n) (hn : n + 3 < 1000000) : ∃ v' : Int64, OkC (.long v') xs L so 109 217 [.int x, .int w] dr ds I J n q := by
  obtain ⟨cc, tc, rl, sg, tp, ca, kd, nb, ta, ua, wa, tz, h⟩ := h
  obtain ⟨I1, J1, I2, J2, v', r1, r2, r3⟩ := o_home (D := 0) (q := q) (J := J) (x := x) (w := w) h
  exact ⟨v', I1, J1, I2, J2, n, q, dr, ds, by omega, by omega, r1.mono (by omega), r2.mono (by omega), _, _, _, _, _, _, _, _, _, _, _, _, r3⟩
theorem k_cards (h : StL xs L so dr ds I n) (hn : n + 3 < 1000000) : ∃ v' : Int32, OkC (.int v') xs L so 112 218 [.int x] dr ds I J n q := by
  obtain ⟨cc, tc, rl, sg, tp, ca, kd, nb, ta, ua, wa, tz, h⟩ := h
  obtain ⟨I1, J1, I2, J2, v', r1, r2, r3⟩ := o_cards (D := 0) (q := q) (J := J) (x := x) h
  exact ⟨v', I1, J1, I2, J2, n, q, dr, ds, by omega, by omega, r1.mono (by omega), r2.mono (by omega), _, _, _, _, _, _, _, _, _, _, _, _, r3⟩
theorem k_runs (h : StL xs L so dr ds I n) (hn : n + 3 < 1000000) : ∃ v' : Int32, OkC (.int v') xs L so 118 220 [] dr ds I J n q := by
  obtain ⟨cc, tc, rl, sg, tp, ca, kd, nb, ta, ua, wa, tz, h⟩ := h
  obtain ⟨v', r1, r2⟩ := o_runs (d := 0) (q := q) (J := J) h
  exact ⟨v', I, J, I, J, n, q, dr, ds, by omega, by omega, r1.mono (by omega), r2.mono (by omega), _, _, _, _, _, _, _, _, _, _, _, _, h⟩
theorem k_judge (h : StL xs L so dr ds I n) (hn : n + 3 < 1000000) : ∃ v' : Int32, OkC (.int v') xs L so 119 221 [.int x] dr ds I J n q := by
  obtain ⟨cc, tc, rl, sg, tp, ca, kd, nb, ta, ua, wa, tz, h⟩ := h
  obtain ⟨I1, J1, I2, J2, v', r1, r2, r3⟩ := o_judge (D := 0) (q := q) (J := J) (x := x) h
  exact ⟨v', I1, J1, I2, J2, n, q, dr, ds, by omega, by omega, r1.mono (by omega), r2.mono (by omega), _, _, _, _, _, _, _, _, _, _, _, _, r3⟩
theorem k_fits (h : StL xs L so dr ds I n) (hn : n + 3 < 1000000) : ∃ v' : Int32, OkC (.int v') xs L so 122 224 [.int x] dr ds I J n q := by
  obtain ⟨cc, tc, rl, sg, tp, ca, kd, nb, ta, ua, wa, tz, h⟩ := h
  obtain ⟨I1, J1, I2, J2, v', r1, r2, r3⟩ := o_fits (D := 0) (q := q) (J := J) (x := x) h
  exact ⟨v', I1, J1, I2, J2, n, q, dr, ds, by omega, by omega, r1.mono (by omega), r2.mono (by omega), _, _, _, _, _, _, _, _, _, _, _, _, r3⟩
theorem k_laws (h : StL xs L so dr ds I n) (hn : n + 3 < 1000000) : ∃ v' : Int32, OkC (.int v') xs L so 123 225 [.int x] dr ds I J n q := by
  obtain ⟨cc, tc, rl, sg, tp, ca, kd, nb, ta, ua, wa, tz, h⟩ := h
  obtain ⟨I1, J1, I2, J2, v', r1, r2, r3⟩ := o_laws (D := 0) (q := q) (J := J) (x := x) h
  exact ⟨v', I1, J1, I2, J2, n, q, dr, ds, by omega, by omega, r1.mono (by omega), r2.mono (by omega), _, _, _, _, _, _, _, _, _, _, _, _, r3⟩
theorem k_drawn (h : StL xs L so dr ds I n) (hn : n + 3 < 1000000) : ∃ v' : Int64, OkC (.long v') xs L so 124 226 [.int x, .int y] dr ds I J n q := by
  obtain ⟨cc, tc, rl, sg, tp, ca, kd, nb, ta, ua, wa, tz, h⟩ := h
  obtain ⟨I1, J1, I2, J2, v', r1, r2, r3⟩ := o_drawn (D := 0) (q := q) (J := J) (x := x) (y := y) h
  exact ⟨v', I1, J1, I2, J2, n, q, dr, ds, by omega, by omega, r1.mono (by omega), r2.mono (by omega), _, _, _, _, _, _, _, _, _, _, _, _, r3⟩
theorem k_often (h : StL xs L so dr ds I n) (hn : n + 3 < 1000000) : ∃ v' : Int64, OkC (.long v') xs L so 127 228 [.int x, .int y, .int z, .int w] dr ds I J n q := by
  obtain ⟨cc, tc, rl, sg, tp, ca, kd, nb, ta, ua, wa, tz, h⟩ := h
  obtain ⟨I1, J1, I2, J2, v', r1, r2, r3⟩ := o_often (D := 0) (q := q) (J := J) (x := x) (y := y) (z := z) (w := w) h
  exact ⟨v', I1, J1, I2, J2, n, q, dr, ds, by omega, by omega, r1.mono (by omega), r2.mono (by omega), _, _, _, _, _, _, _, _, _, _, _, _, r3⟩
theorem k_image (h : StL xs L so dr ds I n) (hn : n + 3 < 1000000) : ∃ v' : Int32, OkC (.int v') xs L so 128 229 [] dr ds I J n q := by
  obtain ⟨cc, tc, rl, sg, tp, ca, kd, nb, ta, ua, wa, tz, h⟩ := h
  obtain ⟨I1, I2, v', r1, r2, r3⟩ := o_image (d := 0) (q := q) (J := J) h
  exact ⟨v', I1, J, I2, J, n, q, dr, ds, by omega, by omega, r1.mono (by omega), r2.mono (by omega), _, _, _, _, _, _, _, _, _, _, _, _, r3⟩
theorem k_back (h : StL xs L so dr ds I n) (hn : n + 3 < 1000000) : ∃ v' : Int32, OkC (.int v') xs L so 129 230 [] dr ds I J n q := by
  obtain ⟨cc, tc, rl, sg, tp, ca, kd, nb, ta, ua, wa, tz, h⟩ := h
  obtain ⟨I1, I2, v', cc', rl', sg', nb', r1, r2, r3⟩ := o_back (d := 0) (q := q) (J := J) h
  exact ⟨v', I1, J, I2, J, n, q, dr, ds, by omega, by omega, r1.mono (by omega), r2.mono (by omega), _, _, _, _, _, _, _, _, _, _, _, _, r3⟩
theorem k_count (h : StL xs L so dr ds I n) (hn : n + 3 < 1000000) : ∃ v' : Int32, OkC (.int v') xs L so 130 231 [.int x] dr ds I J n q := by
  obtain ⟨cc, tc, rl, sg, tp, ca, kd, nb, ta, ua, wa, tz, h⟩ := h
  obtain ⟨v', r1, r2⟩ := o_count (d := 0) (q := q) (J := J) (x := x) h
  exact ⟨v', I, J, I, J, n, q, dr, ds, by omega, by omega, r1.mono (by omega), r2.mono (by omega), _, _, _, _, _, _, _, _, _, _, _, _, h⟩
theorem k_sheet (h : StL xs L so dr ds I n) (hn : n + 3 < 1000000) : ∃ v' : Int32, OkC (.int v') xs L so 131 232 [.int x, .int y, .int z] dr ds I J n q := by
  obtain ⟨cc, tc, rl, sg, tp, ca, kd, nb, ta, ua, wa, tz, h⟩ := h
  obtain ⟨I1, I2, v', r1, r2, r3⟩ := o_sheet (d := 0) (q := q) (J := J) (x := x) (y := y) (z := z) h
  exact ⟨v', I1, J, I2, J, n, q, dr, ds, by omega, by omega, r1.mono (by omega), r2.mono (by omega), _, _, _, _, _, _, _, _, _, _, _, _, r3⟩
theorem k_cell (h : StL xs L so dr ds I n) (hn : n + 3 < 1000000) : ∃ v' : Int32, OkC (.int v') xs L so 134 233 [.int x, .int y, .int z] dr ds I J n q := by
  obtain ⟨cc, tc, rl, sg, tp, ca, kd, nb, ta, ua, wa, tz, h⟩ := h
  obtain ⟨I1, I2, v', r1, r2, r3⟩ := o_cell (d := 0) (q := q) (J := J) (x := x) (y := y) (z := z) h
  exact ⟨v', I1, J, I2, J, n, q, dr, ds, by omega, by omega, r1.mono (by omega), r2.mono (by omega), _, _, _, _, _, _, _, _, _, _, _, _, r3⟩
theorem k_copy (h : StL xs L so dr ds I n) (hn : n + 3 < 1000000) : ∃ v' : Int32, OkC (.int v') xs L so 136 234 [.int x, .int y, .int z, .int w, .int v] dr ds I J n q := by
  obtain ⟨cc, tc, rl, sg, tp, ca, kd, nb, ta, ua, wa, tz, h⟩ := h
  obtain ⟨I1, I2, v', r1, r2, r3⟩ := o_copy (d := 0) (q := q) (J := J) (x := x) (y := y) (z := z) (w := w) (v := v) h
  exact ⟨v', I1, J, I2, J, n, q, dr, ds, by omega, by omega, r1.mono (by omega), r2.mono (by omega), _, _, _, _, _, _, _, _, _, _, _, _, r3⟩
theorem k_hears (h : StL xs L so dr ds I n) (hn : n + 3 < 1000000) : ∃ v' : Int32, OkC (.int v') xs L so 138 235 [.int x, .int y, .int w, .int v] dr ds I J n q := by
  obtain ⟨cc, tc, rl, sg, tp, ca, kd, nb, ta, ua, wa, tz, h⟩ := h
  obtain ⟨I1, I2, v', sg', r1, r2, r3⟩ := o_hears (d := 0) (q := q) (J := J) (x := x) (y := y) (w := w) (v := v) h
  exact ⟨v', I1, J, I2, J, n, q, dr, ds, by omega, by omega, r1.mono (by omega), r2.mono (by omega), _, _, _, _, _, _, _, _, _, _, _, _, r3⟩
theorem k_taken (h : StL xs L so dr ds I n) (hn : n + 3 < 1000000) : ∃ v' : Int32, OkC (.int v') xs L so 139 236 [.int x, .int y] dr ds I J n q := by
  obtain ⟨cc, tc, rl, sg, tp, ca, kd, nb, ta, ua, wa, tz, h⟩ := h
  obtain ⟨v', r1, r2⟩ := o_taken (d := 0) (q := q) (J := J) (x := x) (y := y) h
  exact ⟨v', I, J, I, J, n, q, dr, ds, by omega, by omega, r1.mono (by omega), r2.mono (by omega), _, _, _, _, _, _, _, _, _, _, _, _, h⟩
theorem sc_0 (h : StL xs L so dr ds I n) (ht : t + 6 ≤ L) (hL : L ≤ 3072) (hn : n + 3 < 1000000) (hj : xs t &&& 31 = nI 0) (IH : ∀ I2 J2 n' q' dr' ds', n' ≤ n + 3 → q' ≤ q + 324 → StL xs L so dr' ds' I2 n' → ∃ I' J' R' S' n2 q2, n2 ≤ 2000 ∧ q2 ≤ 200000 ∧ px_ev 800 0 18 [some (.ref 1000000), some (.ref 0), some (.ref 31), some (.int (nI (t + 6)))] [] I2 J2 (dR so dr') (dS L ds') n' q' (some (.int 1), I', J', R', S', n2, q2)) : ∃ I' J' R' S' n2 q2, n2 ≤ 2000 ∧ q2 ≤ 200000 ∧ px_ev 800 0 27 [some (.ref 1000000), some (.ref 0), some (.ref 31), some (.int (nI t))] [] I J (dR so dr) (dS L ds) n q (some (.int 1), I', J', R', S', n2, q2) := by
  have ro : ∀ j, I 1000000 j = xs j := by
    obtain ⟨cc, tc, rl, sg, tp, ca, kd, nb, ta, ua, wa, tz, h⟩ := h
    exact fun j => (h.2.2.2.2.2.2.2.1 1000000 j (by decide)).trans rfl
  obtain ⟨v', I1, J1, I2, J2, n', q', dr', ds', hn', hq', r1, r2, st'⟩ := k_set (q := q) (J := J) (x := xs (t + 1)) (y := xs (t + 2)) (v := xs (t + 3)) h hn
  have ro1 : ∀ j, I1 1000000 j = xs j := fun j => (mt_ro r1 rfl j).trans (ro j)
  obtain ⟨I', J', R', S', n2, q2, b1, b2, fin⟩ := IH I2 J2 n' q' dr' ds' hn' hq' st'
  refine ⟨I', J', R', S', n2, q2, b1, b2, ?_⟩
  refine e_s rfl ?_
  refine e_s rfl ?_
  refine e_ia rfl rfl rfl (show t < L by omega) (by omega) ?_
  rw [ro t]
  refine e_s rfl ?_
  refine e_s rfl ?_
  rw [hj]
  refine e_s rfl ?_
  refine e_s rfl ?_
  refine e_s rfl ?_
  refine e_s rfl ?_
  refine e_s rfl ?_
  refine e_s rfl ?_
  rw [show nI t + 1 = nI (t + 1) from nI_add t 1]
  refine e_ia rfl rfl rfl (show t + 1 < L by omega) (by omega) ?_
  rw [ro (t + 1)]
  refine e_s rfl ?_
  refine e_s rfl ?_
  refine e_s rfl ?_
  refine e_s rfl ?_
  rw [show nI t + 2 = nI (t + 2) from nI_add t 2]
  refine e_ia rfl rfl rfl (show t + 2 < L by omega) (by omega) ?_
  rw [ro (t + 2)]
  refine e_s rfl ?_
  refine e_s rfl ?_
  refine e_s rfl ?_
  refine e_s rfl ?_
  rw [show nI t + 3 = nI (t + 3) from nI_add t 3]
  refine e_ia rfl rfl rfl (show t + 3 < L by omega) (by omega) ?_
  rw [ro (t + 3)]
  refine e_c rfl r1 (by omega) ?_
  refine e_s rfl ?_
  refine e_s rfl ?_
  refine e_s rfl ?_
  refine e_s rfl ?_
  refine e_s rfl ?_
  rw [show nI t + 1 = nI (t + 1) from nI_add t 1]
  refine e_ia rfl rfl rfl (show t + 1 < L by omega) (by omega) ?_
  rw [ro1 (t + 1)]
  refine e_s rfl ?_
  refine e_s rfl ?_
  refine e_s rfl ?_
  refine e_s rfl ?_
  rw [show nI t + 2 = nI (t + 2) from nI_add t 2]
  refine e_ia rfl rfl rfl (show t + 2 < L by omega) (by omega) ?_
  rw [ro1 (t + 2)]
  refine e_s rfl ?_
  refine e_s rfl ?_
  refine e_s rfl ?_
  refine e_s rfl ?_
  rw [show nI t + 3 = nI (t + 3) from nI_add t 3]
  refine e_ia rfl rfl rfl (show t + 3 < L by omega) (by omega) ?_
  rw [ro1 (t + 3)]
  refine e_c rfl r2 (by omega) ?_
  refine e_s rfl ?_
  refine e_bt (Eq.refl v') ?_
  refine e_s rfl ?_
  refine e_s rfl ?_
  rw [show nI t + 6 = nI (t + 6) from nI_add t 6]
  exact fin
theorem sc_1 (h : StL xs L so dr ds I n) (ht : t + 6 ≤ L) (hL : L ≤ 3072) (hn : n + 3 < 1000000) (hj : xs t &&& 31 = nI 1) (IH : ∀ I2 J2 n' q' dr' ds', n' ≤ n + 3 → q' ≤ q + 324 → StL xs L so dr' ds' I2 n' → ∃ I' J' R' S' n2 q2, n2 ≤ 2000 ∧ q2 ≤ 200000 ∧ px_ev 800 0 18 [some (.ref 1000000), some (.ref 0), some (.ref 31), some (.int (nI (t + 6)))] [] I2 J2 (dR so dr') (dS L ds') n' q' (some (.int 1), I', J', R', S', n2, q2)) : ∃ I' J' R' S' n2 q2, n2 ≤ 2000 ∧ q2 ≤ 200000 ∧ px_ev 800 0 27 [some (.ref 1000000), some (.ref 0), some (.ref 31), some (.int (nI t))] [] I J (dR so dr) (dS L ds) n q (some (.int 1), I', J', R', S', n2, q2) := by
  have ro : ∀ j, I 1000000 j = xs j := by
    obtain ⟨cc, tc, rl, sg, tp, ca, kd, nb, ta, ua, wa, tz, h⟩ := h
    exact fun j => (h.2.2.2.2.2.2.2.1 1000000 j (by decide)).trans rfl
  obtain ⟨v', I1, J1, I2, J2, n', q', dr', ds', hn', hq', r1, r2, st'⟩ := k_caller (q := q) (J := J) (x := xs (t + 1)) (y := xs (t + 2)) h hn
  have ro1 : ∀ j, I1 1000000 j = xs j := fun j => (mt_ro r1 rfl j).trans (ro j)
  obtain ⟨I', J', R', S', n2, q2, b1, b2, fin⟩ := IH I2 J2 n' q' dr' ds' hn' hq' st'
  refine ⟨I', J', R', S', n2, q2, b1, b2, ?_⟩
  refine e_s rfl ?_
  refine e_s rfl ?_
  refine e_ia rfl rfl rfl (show t < L by omega) (by omega) ?_
  rw [ro t]
  refine e_s rfl ?_
  refine e_s rfl ?_
  rw [hj]
  refine e_s rfl ?_
  refine e_s rfl ?_
  refine e_s rfl ?_
  refine e_s rfl ?_
  refine e_s rfl ?_
  refine e_s rfl ?_
  rw [show nI t + 1 = nI (t + 1) from nI_add t 1]
  refine e_ia rfl rfl rfl (show t + 1 < L by omega) (by omega) ?_
  rw [ro (t + 1)]
  refine e_s rfl ?_
  refine e_s rfl ?_
  refine e_s rfl ?_
  refine e_s rfl ?_
  rw [show nI t + 2 = nI (t + 2) from nI_add t 2]
  refine e_ia rfl rfl rfl (show t + 2 < L by omega) (by omega) ?_
  rw [ro (t + 2)]
  refine e_c rfl r1 (by omega) ?_
  refine e_s rfl ?_
  refine e_s rfl ?_
  refine e_s rfl ?_
  refine e_s rfl ?_
  refine e_s rfl ?_
  rw [show nI t + 1 = nI (t + 1) from nI_add t 1]
  refine e_ia rfl rfl rfl (show t + 1 < L by omega) (by omega) ?_
  rw [ro1 (t + 1)]
  refine e_s rfl ?_
  refine e_s rfl ?_
  refine e_s rfl ?_
  refine e_s rfl ?_
  rw [show nI t + 2 = nI (t + 2) from nI_add t 2]
  refine e_ia rfl rfl rfl (show t + 2 < L by omega) (by omega) ?_
  rw [ro1 (t + 2)]
  refine e_c rfl r2 (by omega) ?_
  refine e_s rfl ?_
  refine e_bt (Eq.refl v') ?_
  refine e_s rfl ?_
  refine e_s rfl ?_
  rw [show nI t + 6 = nI (t + 6) from nI_add t 6]
  exact fin
theorem sc_2 (h : StL xs L so dr ds I n) (ht : t + 6 ≤ L) (hL : L ≤ 3072) (hn : n + 3 < 1000000) (hj : xs t &&& 31 = nI 2) (IH : ∀ I2 J2 n' q' dr' ds', n' ≤ n + 3 → q' ≤ q + 324 → StL xs L so dr' ds' I2 n' → ∃ I' J' R' S' n2 q2, n2 ≤ 2000 ∧ q2 ≤ 200000 ∧ px_ev 800 0 18 [some (.ref 1000000), some (.ref 0), some (.ref 31), some (.int (nI (t + 6)))] [] I2 J2 (dR so dr') (dS L ds') n' q' (some (.int 1), I', J', R', S', n2, q2)) : ∃ I' J' R' S' n2 q2, n2 ≤ 2000 ∧ q2 ≤ 200000 ∧ px_ev 800 0 27 [some (.ref 1000000), some (.ref 0), some (.ref 31), some (.int (nI t))] [] I J (dR so dr) (dS L ds) n q (some (.int 1), I', J', R', S', n2, q2) := by
  have ro : ∀ j, I 1000000 j = xs j := by
    obtain ⟨cc, tc, rl, sg, tp, ca, kd, nb, ta, ua, wa, tz, h⟩ := h
    exact fun j => (h.2.2.2.2.2.2.2.1 1000000 j (by decide)).trans rfl
  obtain ⟨v', I1, J1, I2, J2, n', q', dr', ds', hn', hq', r1, r2, st'⟩ := k_hear (q := q) (J := J) (x := xs (t + 1)) h hn
  have ro1 : ∀ j, I1 1000000 j = xs j := fun j => (mt_ro r1 rfl j).trans (ro j)
  obtain ⟨I', J', R', S', n2, q2, b1, b2, fin⟩ := IH I2 J2 n' q' dr' ds' hn' hq' st'
  refine ⟨I', J', R', S', n2, q2, b1, b2, ?_⟩
  refine e_s rfl ?_
  refine e_s rfl ?_
  refine e_ia rfl rfl rfl (show t < L by omega) (by omega) ?_
  rw [ro t]
  refine e_s rfl ?_
  refine e_s rfl ?_
  rw [hj]
  refine e_s rfl ?_
  refine e_s rfl ?_
  refine e_s rfl ?_
  refine e_s rfl ?_
  refine e_s rfl ?_
  refine e_s rfl ?_
  rw [show nI t + 1 = nI (t + 1) from nI_add t 1]
  refine e_ia rfl rfl rfl (show t + 1 < L by omega) (by omega) ?_
  rw [ro (t + 1)]
  refine e_c rfl r1 (by omega) ?_
  refine e_s rfl ?_
  refine e_s rfl ?_
  refine e_s rfl ?_
  refine e_s rfl ?_
  refine e_s rfl ?_
  rw [show nI t + 1 = nI (t + 1) from nI_add t 1]
  refine e_ia rfl rfl rfl (show t + 1 < L by omega) (by omega) ?_
  rw [ro1 (t + 1)]
  refine e_c rfl r2 (by omega) ?_
  refine e_s rfl ?_
  refine e_bt (Eq.refl v') ?_
  refine e_s rfl ?_
  refine e_s rfl ?_
  rw [show nI t + 6 = nI (t + 6) from nI_add t 6]
  exact fin
theorem sc_3 (h : StL xs L so dr ds I n) (ht : t + 6 ≤ L) (hL : L ≤ 3072) (hn : n + 3 < 1000000) (hj : xs t &&& 31 = nI 3) (IH : ∀ I2 J2 n' q' dr' ds', n' ≤ n + 3 → q' ≤ q + 324 → StL xs L so dr' ds' I2 n' → ∃ I' J' R' S' n2 q2, n2 ≤ 2000 ∧ q2 ≤ 200000 ∧ px_ev 800 0 18 [some (.ref 1000000), some (.ref 0), some (.ref 31), some (.int (nI (t + 6)))] [] I2 J2 (dR so dr') (dS L ds') n' q' (some (.int 1), I', J', R', S', n2, q2)) : ∃ I' J' R' S' n2 q2, n2 ≤ 2000 ∧ q2 ≤ 200000 ∧ px_ev 800 0 27 [some (.ref 1000000), some (.ref 0), some (.ref 31), some (.int (nI t))] [] I J (dR so dr) (dS L ds) n q (some (.int 1), I', J', R', S', n2, q2) := by
  have ro : ∀ j, I 1000000 j = xs j := by
    obtain ⟨cc, tc, rl, sg, tp, ca, kd, nb, ta, ua, wa, tz, h⟩ := h
    exact fun j => (h.2.2.2.2.2.2.2.1 1000000 j (by decide)).trans rfl
  obtain ⟨v', I1, J1, I2, J2, n', q', dr', ds', hn', hq', r1, r2, st'⟩ := k_hush (q := q) (J := J)  h hn
  have ro1 : ∀ j, I1 1000000 j = xs j := fun j => (mt_ro r1 rfl j).trans (ro j)
  obtain ⟨I', J', R', S', n2, q2, b1, b2, fin⟩ := IH I2 J2 n' q' dr' ds' hn' hq' st'
  refine ⟨I', J', R', S', n2, q2, b1, b2, ?_⟩
  refine e_s rfl ?_
  refine e_s rfl ?_
  refine e_ia rfl rfl rfl (show t < L by omega) (by omega) ?_
  rw [ro t]
  refine e_s rfl ?_
  refine e_s rfl ?_
  rw [hj]
  refine e_s rfl ?_
  refine e_s rfl ?_
  refine e_c rfl r1 (by omega) ?_
  refine e_s rfl ?_
  refine e_c rfl r2 (by omega) ?_
  refine e_s rfl ?_
  refine e_bt (Eq.refl v') ?_
  refine e_s rfl ?_
  refine e_s rfl ?_
  rw [show nI t + 6 = nI (t + 6) from nI_add t 6]
  exact fin
theorem sc_4 (h : StL xs L so dr ds I n) (ht : t + 6 ≤ L) (hL : L ≤ 3072) (hn : n + 3 < 1000000) (hj : xs t &&& 31 = nI 4) (IH : ∀ I2 J2 n' q' dr' ds', n' ≤ n + 3 → q' ≤ q + 324 → StL xs L so dr' ds' I2 n' → ∃ I' J' R' S' n2 q2, n2 ≤ 2000 ∧ q2 ≤ 200000 ∧ px_ev 800 0 18 [some (.ref 1000000), some (.ref 0), some (.ref 31), some (.int (nI (t + 6)))] [] I2 J2 (dR so dr') (dS L ds') n' q' (some (.int 1), I', J', R', S', n2, q2)) : ∃ I' J' R' S' n2 q2, n2 ≤ 2000 ∧ q2 ≤ 200000 ∧ px_ev 800 0 27 [some (.ref 1000000), some (.ref 0), some (.ref 31), some (.int (nI t))] [] I J (dR so dr) (dS L ds) n q (some (.int 1), I', J', R', S', n2, q2) := by
  have ro : ∀ j, I 1000000 j = xs j := by
    obtain ⟨cc, tc, rl, sg, tp, ca, kd, nb, ta, ua, wa, tz, h⟩ := h
    exact fun j => (h.2.2.2.2.2.2.2.1 1000000 j (by decide)).trans rfl
  obtain ⟨v', I1, J1, I2, J2, n', q', dr', ds', hn', hq', r1, r2, st'⟩ := k_told (q := q) (J := J) (x := xs (t + 1)) (y := xs (t + 2)) h hn
  have ro1 : ∀ j, I1 1000000 j = xs j := fun j => (mt_ro r1 rfl j).trans (ro j)
  obtain ⟨I', J', R', S', n2, q2, b1, b2, fin⟩ := IH I2 J2 n' q' dr' ds' hn' hq' st'
  refine ⟨I', J', R', S', n2, q2, b1, b2, ?_⟩
  refine e_s rfl ?_
  refine e_s rfl ?_
  refine e_ia rfl rfl rfl (show t < L by omega) (by omega) ?_
  rw [ro t]
  refine e_s rfl ?_
  refine e_s rfl ?_
  rw [hj]
  refine e_s rfl ?_
  refine e_s rfl ?_
  refine e_s rfl ?_
  refine e_s rfl ?_
  refine e_s rfl ?_
  refine e_s rfl ?_
  rw [show nI t + 1 = nI (t + 1) from nI_add t 1]
  refine e_ia rfl rfl rfl (show t + 1 < L by omega) (by omega) ?_
  rw [ro (t + 1)]
  refine e_s rfl ?_
  refine e_s rfl ?_
  refine e_s rfl ?_
  refine e_s rfl ?_
  rw [show nI t + 2 = nI (t + 2) from nI_add t 2]
  refine e_ia rfl rfl rfl (show t + 2 < L by omega) (by omega) ?_
  rw [ro (t + 2)]
  refine e_c rfl r1 (by omega) ?_
  refine e_s rfl ?_
  refine e_s rfl ?_
  refine e_s rfl ?_
  refine e_s rfl ?_
  refine e_s rfl ?_
  rw [show nI t + 1 = nI (t + 1) from nI_add t 1]
  refine e_ia rfl rfl rfl (show t + 1 < L by omega) (by omega) ?_
  rw [ro1 (t + 1)]
  refine e_s rfl ?_
  refine e_s rfl ?_
  refine e_s rfl ?_
  refine e_s rfl ?_
  rw [show nI t + 2 = nI (t + 2) from nI_add t 2]
  refine e_ia rfl rfl rfl (show t + 2 < L by omega) (by omega) ?_
  rw [ro1 (t + 2)]
  refine e_c rfl r2 (by omega) ?_
  refine e_s rfl ?_
  refine e_bt (Eq.refl v') ?_
  refine e_s rfl ?_
  refine e_s rfl ?_
  rw [show nI t + 6 = nI (t + 6) from nI_add t 6]
  exact fin
theorem sc_5 (h : StL xs L so dr ds I n) (ht : t + 6 ≤ L) (hL : L ≤ 3072) (hn : n + 3 < 1000000) (hj : xs t &&& 31 = nI 5) (IH : ∀ I2 J2 n' q' dr' ds', n' ≤ n + 3 → q' ≤ q + 324 → StL xs L so dr' ds' I2 n' → ∃ I' J' R' S' n2 q2, n2 ≤ 2000 ∧ q2 ≤ 200000 ∧ px_ev 800 0 18 [some (.ref 1000000), some (.ref 0), some (.ref 31), some (.int (nI (t + 6)))] [] I2 J2 (dR so dr') (dS L ds') n' q' (some (.int 1), I', J', R', S', n2, q2)) : ∃ I' J' R' S' n2 q2, n2 ≤ 2000 ∧ q2 ≤ 200000 ∧ px_ev 800 0 27 [some (.ref 1000000), some (.ref 0), some (.ref 31), some (.int (nI t))] [] I J (dR so dr) (dS L ds) n q (some (.int 1), I', J', R', S', n2, q2) := by
  have ro : ∀ j, I 1000000 j = xs j := by
    obtain ⟨cc, tc, rl, sg, tp, ca, kd, nb, ta, ua, wa, tz, h⟩ := h
    exact fun j => (h.2.2.2.2.2.2.2.1 1000000 j (by decide)).trans rfl
  obtain ⟨v', I1, J1, I2, J2, n', q', dr', ds', hn', hq', r1, r2, st'⟩ := k_feed (q := q) (J := J) (x := xs (t + 1)) h hn
  have ro1 : ∀ j, I1 1000000 j = xs j := fun j => (mt_ro r1 rfl j).trans (ro j)
  obtain ⟨I', J', R', S', n2, q2, b1, b2, fin⟩ := IH I2 J2 n' q' dr' ds' hn' hq' st'
  refine ⟨I', J', R', S', n2, q2, b1, b2, ?_⟩
  refine e_s rfl ?_
  refine e_s rfl ?_
  refine e_ia rfl rfl rfl (show t < L by omega) (by omega) ?_
  rw [ro t]
  refine e_s rfl ?_
  refine e_s rfl ?_
  rw [hj]
  refine e_s rfl ?_
  refine e_s rfl ?_
  refine e_s rfl ?_
  refine e_s rfl ?_
  refine e_s rfl ?_
  refine e_s rfl ?_
  rw [show nI t + 1 = nI (t + 1) from nI_add t 1]
  refine e_ia rfl rfl rfl (show t + 1 < L by omega) (by omega) ?_
  rw [ro (t + 1)]
  refine e_c rfl r1 (by omega) ?_
  refine e_s rfl ?_
  refine e_s rfl ?_
  refine e_s rfl ?_
  refine e_s rfl ?_
  refine e_s rfl ?_
  rw [show nI t + 1 = nI (t + 1) from nI_add t 1]
  refine e_ia rfl rfl rfl (show t + 1 < L by omega) (by omega) ?_
  rw [ro1 (t + 1)]
  refine e_c rfl r2 (by omega) ?_
  refine e_s rfl ?_
  refine e_bt (Eq.refl v') ?_
  refine e_s rfl ?_
  refine e_s rfl ?_
  rw [show nI t + 6 = nI (t + 6) from nI_add t 6]
  exact fin
theorem sc_6 (h : StL xs L so dr ds I n) (ht : t + 6 ≤ L) (hL : L ≤ 3072) (hn : n + 3 < 1000000) (hj : xs t &&& 31 = nI 6) (IH : ∀ I2 J2 n' q' dr' ds', n' ≤ n + 3 → q' ≤ q + 324 → StL xs L so dr' ds' I2 n' → ∃ I' J' R' S' n2 q2, n2 ≤ 2000 ∧ q2 ≤ 200000 ∧ px_ev 800 0 18 [some (.ref 1000000), some (.ref 0), some (.ref 31), some (.int (nI (t + 6)))] [] I2 J2 (dR so dr') (dS L ds') n' q' (some (.int 1), I', J', R', S', n2, q2)) : ∃ I' J' R' S' n2 q2, n2 ≤ 2000 ∧ q2 ≤ 200000 ∧ px_ev 800 0 27 [some (.ref 1000000), some (.ref 0), some (.ref 31), some (.int (nI t))] [] I J (dR so dr) (dS L ds) n q (some (.int 1), I', J', R', S', n2, q2) := by
  have ro : ∀ j, I 1000000 j = xs j := by
    obtain ⟨cc, tc, rl, sg, tp, ca, kd, nb, ta, ua, wa, tz, h⟩ := h
    exact fun j => (h.2.2.2.2.2.2.2.1 1000000 j (by decide)).trans rfl
  obtain ⟨v', I1, J1, I2, J2, n', q', dr', ds', hn', hq', r1, r2, st'⟩ := k_text (q := q) (J := J)  h hn
  have ro1 : ∀ j, I1 1000000 j = xs j := fun j => (mt_ro r1 rfl j).trans (ro j)
  obtain ⟨I', J', R', S', n2, q2, b1, b2, fin⟩ := IH I2 J2 n' q' dr' ds' hn' hq' st'
  refine ⟨I', J', R', S', n2, q2, b1, b2, ?_⟩
  refine e_s rfl ?_
  refine e_s rfl ?_
  refine e_ia rfl rfl rfl (show t < L by omega) (by omega) ?_
  rw [ro t]
  refine e_s rfl ?_
  refine e_s rfl ?_
  rw [hj]
  refine e_s rfl ?_
  refine e_s rfl ?_
  refine e_c rfl r1 (by omega) ?_
  refine e_s rfl ?_
  refine e_c rfl r2 (by omega) ?_
  refine e_s rfl ?_
  refine e_bt (Eq.refl v') ?_
  refine e_s rfl ?_
  refine e_s rfl ?_
  rw [show nI t + 6 = nI (t + 6) from nI_add t 6]
  exact fin
theorem sc_7 (h : StL xs L so dr ds I n) (ht : t + 6 ≤ L) (hL : L ≤ 3072) (hn : n + 3 < 1000000) (hj : xs t &&& 31 = nI 7) (IH : ∀ I2 J2 n' q' dr' ds', n' ≤ n + 3 → q' ≤ q + 324 → StL xs L so dr' ds' I2 n' → ∃ I' J' R' S' n2 q2, n2 ≤ 2000 ∧ q2 ≤ 200000 ∧ px_ev 800 0 18 [some (.ref 1000000), some (.ref 0), some (.ref 31), some (.int (nI (t + 6)))] [] I2 J2 (dR so dr') (dS L ds') n' q' (some (.int 1), I', J', R', S', n2, q2)) : ∃ I' J' R' S' n2 q2, n2 ≤ 2000 ∧ q2 ≤ 200000 ∧ px_ev 800 0 27 [some (.ref 1000000), some (.ref 0), some (.ref 31), some (.int (nI t))] [] I J (dR so dr) (dS L ds) n q (some (.int 1), I', J', R', S', n2, q2) := by
  have ro : ∀ j, I 1000000 j = xs j := by
    obtain ⟨cc, tc, rl, sg, tp, ca, kd, nb, ta, ua, wa, tz, h⟩ := h
    exact fun j => (h.2.2.2.2.2.2.2.1 1000000 j (by decide)).trans rfl
  obtain ⟨v', I1, J1, I2, J2, n', q', dr', ds', hn', hq', r1, r2, st'⟩ := k_force (q := q) (J := J) (x := xs (t + 1)) h hn
  have ro1 : ∀ j, I1 1000000 j = xs j := fun j => (mt_ro r1 rfl j).trans (ro j)
  obtain ⟨I', J', R', S', n2, q2, b1, b2, fin⟩ := IH I2 J2 n' q' dr' ds' hn' hq' st'
  refine ⟨I', J', R', S', n2, q2, b1, b2, ?_⟩
  refine e_s rfl ?_
  refine e_s rfl ?_
  refine e_ia rfl rfl rfl (show t < L by omega) (by omega) ?_
  rw [ro t]
  refine e_s rfl ?_
  refine e_s rfl ?_
  rw [hj]
  refine e_s rfl ?_
  refine e_s rfl ?_
  refine e_s rfl ?_
  refine e_s rfl ?_
  refine e_s rfl ?_
  refine e_s rfl ?_
  rw [show nI t + 1 = nI (t + 1) from nI_add t 1]
  refine e_ia rfl rfl rfl (show t + 1 < L by omega) (by omega) ?_
  rw [ro (t + 1)]
  refine e_c rfl r1 (by omega) ?_
  refine e_s rfl ?_
  refine e_s rfl ?_
  refine e_s rfl ?_
  refine e_s rfl ?_
  refine e_s rfl ?_
  rw [show nI t + 1 = nI (t + 1) from nI_add t 1]
  refine e_ia rfl rfl rfl (show t + 1 < L by omega) (by omega) ?_
  rw [ro1 (t + 1)]
  refine e_c rfl r2 (by omega) ?_
  refine e_s rfl ?_
  refine e_bt (Eq.refl v') ?_
  refine e_s rfl ?_
  refine e_s rfl ?_
  rw [show nI t + 6 = nI (t + 6) from nI_add t 6]
  exact fin
theorem sc_8 (h : StL xs L so dr ds I n) (ht : t + 6 ≤ L) (hL : L ≤ 3072) (hn : n + 3 < 1000000) (hj : xs t &&& 31 = nI 8) (IH : ∀ I2 J2 n' q' dr' ds', n' ≤ n + 3 → q' ≤ q + 324 → StL xs L so dr' ds' I2 n' → ∃ I' J' R' S' n2 q2, n2 ≤ 2000 ∧ q2 ≤ 200000 ∧ px_ev 800 0 18 [some (.ref 1000000), some (.ref 0), some (.ref 31), some (.int (nI (t + 6)))] [] I2 J2 (dR so dr') (dS L ds') n' q' (some (.int 1), I', J', R', S', n2, q2)) : ∃ I' J' R' S' n2 q2, n2 ≤ 2000 ∧ q2 ≤ 200000 ∧ px_ev 800 0 27 [some (.ref 1000000), some (.ref 0), some (.ref 31), some (.int (nI t))] [] I J (dR so dr) (dS L ds) n q (some (.int 1), I', J', R', S', n2, q2) := by
  have ro : ∀ j, I 1000000 j = xs j := by
    obtain ⟨cc, tc, rl, sg, tp, ca, kd, nb, ta, ua, wa, tz, h⟩ := h
    exact fun j => (h.2.2.2.2.2.2.2.1 1000000 j (by decide)).trans rfl
  obtain ⟨v', I1, J1, I2, J2, n', q', dr', ds', hn', hq', r1, r2, st'⟩ := k_weight (q := q) (J := J) (x := xs (t + 1)) h hn
  have ro1 : ∀ j, I1 1000000 j = xs j := fun j => (mt_ro r1 rfl j).trans (ro j)
  obtain ⟨I', J', R', S', n2, q2, b1, b2, fin⟩ := IH I2 J2 n' q' dr' ds' hn' hq' st'
  refine ⟨I', J', R', S', n2, q2, b1, b2, ?_⟩
  refine e_s rfl ?_
  refine e_s rfl ?_
  refine e_ia rfl rfl rfl (show t < L by omega) (by omega) ?_
  rw [ro t]
  refine e_s rfl ?_
  refine e_s rfl ?_
  rw [hj]
  refine e_s rfl ?_
  refine e_s rfl ?_
  refine e_s rfl ?_
  refine e_s rfl ?_
  refine e_s rfl ?_
  refine e_s rfl ?_
  rw [show nI t + 1 = nI (t + 1) from nI_add t 1]
  refine e_ia rfl rfl rfl (show t + 1 < L by omega) (by omega) ?_
  rw [ro (t + 1)]
  refine e_c rfl r1 (by omega) ?_
  refine e_s rfl ?_
  refine e_s rfl ?_
  refine e_s rfl ?_
  refine e_s rfl ?_
  refine e_s rfl ?_
  rw [show nI t + 1 = nI (t + 1) from nI_add t 1]
  refine e_ia rfl rfl rfl (show t + 1 < L by omega) (by omega) ?_
  rw [ro1 (t + 1)]
  refine e_c rfl r2 (by omega) ?_
  refine e_s rfl ?_
  refine e_s rfl ?_
  refine e_bt ((lg_cmp_eq _ _).mpr rfl) ?_
  refine e_s rfl ?_
  refine e_s rfl ?_
  rw [show nI t + 6 = nI (t + 6) from nI_add t 6]
  exact fin
theorem sc_9 (h : StL xs L so dr ds I n) (ht : t + 6 ≤ L) (hL : L ≤ 3072) (hn : n + 3 < 1000000) (hj : xs t &&& 31 = nI 9) (IH : ∀ I2 J2 n' q' dr' ds', n' ≤ n + 3 → q' ≤ q + 324 → StL xs L so dr' ds' I2 n' → ∃ I' J' R' S' n2 q2, n2 ≤ 2000 ∧ q2 ≤ 200000 ∧ px_ev 800 0 18 [some (.ref 1000000), some (.ref 0), some (.ref 31), some (.int (nI (t + 6)))] [] I2 J2 (dR so dr') (dS L ds') n' q' (some (.int 1), I', J', R', S', n2, q2)) : ∃ I' J' R' S' n2 q2, n2 ≤ 2000 ∧ q2 ≤ 200000 ∧ px_ev 800 0 27 [some (.ref 1000000), some (.ref 0), some (.ref 31), some (.int (nI t))] [] I J (dR so dr) (dS L ds) n q (some (.int 1), I', J', R', S', n2, q2) := by
  have ro : ∀ j, I 1000000 j = xs j := by
    obtain ⟨cc, tc, rl, sg, tp, ca, kd, nb, ta, ua, wa, tz, h⟩ := h
    exact fun j => (h.2.2.2.2.2.2.2.1 1000000 j (by decide)).trans rfl
  obtain ⟨v', I1, J1, I2, J2, n', q', dr', ds', hn', hq', r1, r2, st'⟩ := k_who (q := q) (J := J)  h hn
  have ro1 : ∀ j, I1 1000000 j = xs j := fun j => (mt_ro r1 rfl j).trans (ro j)
  obtain ⟨I', J', R', S', n2, q2, b1, b2, fin⟩ := IH I2 J2 n' q' dr' ds' hn' hq' st'
  refine ⟨I', J', R', S', n2, q2, b1, b2, ?_⟩
  refine e_s rfl ?_
  refine e_s rfl ?_
  refine e_ia rfl rfl rfl (show t < L by omega) (by omega) ?_
  rw [ro t]
  refine e_s rfl ?_
  refine e_s rfl ?_
  rw [hj]
  refine e_s rfl ?_
  refine e_s rfl ?_
  refine e_c rfl r1 (by omega) ?_
  refine e_s rfl ?_
  refine e_c rfl r2 (by omega) ?_
  refine e_s rfl ?_
  refine e_bt (Eq.refl v') ?_
  refine e_s rfl ?_
  refine e_s rfl ?_
  rw [show nI t + 6 = nI (t + 6) from nI_add t 6]
  exact fin
theorem sc_10 (h : StL xs L so dr ds I n) (ht : t + 6 ≤ L) (hL : L ≤ 3072) (hn : n + 3 < 1000000) (hj : xs t &&& 31 = nI 10) (IH : ∀ I2 J2 n' q' dr' ds', n' ≤ n + 3 → q' ≤ q + 324 → StL xs L so dr' ds' I2 n' → ∃ I' J' R' S' n2 q2, n2 ≤ 2000 ∧ q2 ≤ 200000 ∧ px_ev 800 0 18 [some (.ref 1000000), some (.ref 0), some (.ref 31), some (.int (nI (t + 6)))] [] I2 J2 (dR so dr') (dS L ds') n' q' (some (.int 1), I', J', R', S', n2, q2)) : ∃ I' J' R' S' n2 q2, n2 ≤ 2000 ∧ q2 ≤ 200000 ∧ px_ev 800 0 27 [some (.ref 1000000), some (.ref 0), some (.ref 31), some (.int (nI t))] [] I J (dR so dr) (dS L ds) n q (some (.int 1), I', J', R', S', n2, q2) := by
  have ro : ∀ j, I 1000000 j = xs j := by
    obtain ⟨cc, tc, rl, sg, tp, ca, kd, nb, ta, ua, wa, tz, h⟩ := h
    exact fun j => (h.2.2.2.2.2.2.2.1 1000000 j (by decide)).trans rfl
  obtain ⟨v', I1, J1, I2, J2, n', q', dr', ds', hn', hq', r1, r2, st'⟩ := k_odds (q := q) (J := J) (x := xs (t + 1)) (y := xs (t + 2)) h hn
  have ro1 : ∀ j, I1 1000000 j = xs j := fun j => (mt_ro r1 rfl j).trans (ro j)
  obtain ⟨I', J', R', S', n2, q2, b1, b2, fin⟩ := IH I2 J2 n' q' dr' ds' hn' hq' st'
  refine ⟨I', J', R', S', n2, q2, b1, b2, ?_⟩
  refine e_s rfl ?_
  refine e_s rfl ?_
  refine e_ia rfl rfl rfl (show t < L by omega) (by omega) ?_
  rw [ro t]
  refine e_s rfl ?_
  refine e_s rfl ?_
  rw [hj]
  refine e_s rfl ?_
  refine e_s rfl ?_
  refine e_s rfl ?_
  refine e_s rfl ?_
  refine e_s rfl ?_
  refine e_s rfl ?_
  rw [show nI t + 1 = nI (t + 1) from nI_add t 1]
  refine e_ia rfl rfl rfl (show t + 1 < L by omega) (by omega) ?_
  rw [ro (t + 1)]
  refine e_s rfl ?_
  refine e_s rfl ?_
  refine e_s rfl ?_
  refine e_s rfl ?_
  rw [show nI t + 2 = nI (t + 2) from nI_add t 2]
  refine e_ia rfl rfl rfl (show t + 2 < L by omega) (by omega) ?_
  rw [ro (t + 2)]
  refine e_c rfl r1 (by omega) ?_
  refine e_s rfl ?_
  refine e_s rfl ?_
  refine e_s rfl ?_
  refine e_s rfl ?_
  refine e_s rfl ?_
  rw [show nI t + 1 = nI (t + 1) from nI_add t 1]
  refine e_ia rfl rfl rfl (show t + 1 < L by omega) (by omega) ?_
  rw [ro1 (t + 1)]
  refine e_s rfl ?_
  refine e_s rfl ?_
  refine e_s rfl ?_
  refine e_s rfl ?_
  rw [show nI t + 2 = nI (t + 2) from nI_add t 2]
  refine e_ia rfl rfl rfl (show t + 2 < L by omega) (by omega) ?_
  rw [ro1 (t + 2)]
  refine e_c rfl r2 (by omega) ?_
  refine e_s rfl ?_
  refine e_s rfl ?_
  refine e_bt ((lg_cmp_eq _ _).mpr rfl) ?_
  refine e_s rfl ?_
  refine e_s rfl ?_
  rw [show nI t + 6 = nI (t + 6) from nI_add t 6]
  exact fin
theorem sc_11 (h : StL xs L so dr ds I n) (ht : t + 6 ≤ L) (hL : L ≤ 3072) (hn : n + 3 < 1000000) (hj : xs t &&& 31 = nI 11) (IH : ∀ I2 J2 n' q' dr' ds', n' ≤ n + 3 → q' ≤ q + 324 → StL xs L so dr' ds' I2 n' → ∃ I' J' R' S' n2 q2, n2 ≤ 2000 ∧ q2 ≤ 200000 ∧ px_ev 800 0 18 [some (.ref 1000000), some (.ref 0), some (.ref 31), some (.int (nI (t + 6)))] [] I2 J2 (dR so dr') (dS L ds') n' q' (some (.int 1), I', J', R', S', n2, q2)) : ∃ I' J' R' S' n2 q2, n2 ≤ 2000 ∧ q2 ≤ 200000 ∧ px_ev 800 0 27 [some (.ref 1000000), some (.ref 0), some (.ref 31), some (.int (nI t))] [] I J (dR so dr) (dS L ds) n q (some (.int 1), I', J', R', S', n2, q2) := by
  have ro : ∀ j, I 1000000 j = xs j := by
    obtain ⟨cc, tc, rl, sg, tp, ca, kd, nb, ta, ua, wa, tz, h⟩ := h
    exact fun j => (h.2.2.2.2.2.2.2.1 1000000 j (by decide)).trans rfl
  obtain ⟨v', I1, J1, I2, J2, n', q', dr', ds', hn', hq', r1, r2, st'⟩ := k_gain (q := q) (J := J) (x := xs (t + 1)) h hn
  have ro1 : ∀ j, I1 1000000 j = xs j := fun j => (mt_ro r1 rfl j).trans (ro j)
  obtain ⟨I', J', R', S', n2, q2, b1, b2, fin⟩ := IH I2 J2 n' q' dr' ds' hn' hq' st'
  refine ⟨I', J', R', S', n2, q2, b1, b2, ?_⟩
  refine e_s rfl ?_
  refine e_s rfl ?_
  refine e_ia rfl rfl rfl (show t < L by omega) (by omega) ?_
  rw [ro t]
  refine e_s rfl ?_
  refine e_s rfl ?_
  rw [hj]
  refine e_s rfl ?_
  refine e_s rfl ?_
  refine e_s rfl ?_
  refine e_s rfl ?_
  refine e_s rfl ?_
  refine e_s rfl ?_
  rw [show nI t + 1 = nI (t + 1) from nI_add t 1]
  refine e_ia rfl rfl rfl (show t + 1 < L by omega) (by omega) ?_
  rw [ro (t + 1)]
  refine e_c rfl r1 (by omega) ?_
  refine e_s rfl ?_
  refine e_s rfl ?_
  refine e_s rfl ?_
  refine e_s rfl ?_
  refine e_s rfl ?_
  rw [show nI t + 1 = nI (t + 1) from nI_add t 1]
  refine e_ia rfl rfl rfl (show t + 1 < L by omega) (by omega) ?_
  rw [ro1 (t + 1)]
  refine e_c rfl r2 (by omega) ?_
  refine e_s rfl ?_
  refine e_s rfl ?_
  refine e_bt ((lg_cmp_eq _ _).mpr rfl) ?_
  refine e_s rfl ?_
  refine e_s rfl ?_
  rw [show nI t + 6 = nI (t + 6) from nI_add t 6]
  exact fin
theorem sc_12 (h : StL xs L so dr ds I n) (ht : t + 6 ≤ L) (hL : L ≤ 3072) (hn : n + 3 < 1000000) (hj : xs t &&& 31 = nI 12) (IH : ∀ I2 J2 n' q' dr' ds', n' ≤ n + 3 → q' ≤ q + 324 → StL xs L so dr' ds' I2 n' → ∃ I' J' R' S' n2 q2, n2 ≤ 2000 ∧ q2 ≤ 200000 ∧ px_ev 800 0 18 [some (.ref 1000000), some (.ref 0), some (.ref 31), some (.int (nI (t + 6)))] [] I2 J2 (dR so dr') (dS L ds') n' q' (some (.int 1), I', J', R', S', n2, q2)) : ∃ I' J' R' S' n2 q2, n2 ≤ 2000 ∧ q2 ≤ 200000 ∧ px_ev 800 0 27 [some (.ref 1000000), some (.ref 0), some (.ref 31), some (.int (nI t))] [] I J (dR so dr) (dS L ds) n q (some (.int 1), I', J', R', S', n2, q2) := by
  have ro : ∀ j, I 1000000 j = xs j := by
    obtain ⟨cc, tc, rl, sg, tp, ca, kd, nb, ta, ua, wa, tz, h⟩ := h
    exact fun j => (h.2.2.2.2.2.2.2.1 1000000 j (by decide)).trans rfl
  obtain ⟨v', I1, J1, I2, J2, n', q', dr', ds', hn', hq', r1, r2, st'⟩ := k_open (q := q) (J := J)  h hn
  have ro1 : ∀ j, I1 1000000 j = xs j := fun j => (mt_ro r1 rfl j).trans (ro j)
  obtain ⟨I', J', R', S', n2, q2, b1, b2, fin⟩ := IH I2 J2 n' q' dr' ds' hn' hq' st'
  refine ⟨I', J', R', S', n2, q2, b1, b2, ?_⟩
  refine e_s rfl ?_
  refine e_s rfl ?_
  refine e_ia rfl rfl rfl (show t < L by omega) (by omega) ?_
  rw [ro t]
  refine e_s rfl ?_
  refine e_s rfl ?_
  rw [hj]
  refine e_s rfl ?_
  refine e_s rfl ?_
  refine e_c rfl r1 (by omega) ?_
  refine e_s rfl ?_
  refine e_c rfl r2 (by omega) ?_
  refine e_s rfl ?_
  refine e_bt (Eq.refl v') ?_
  refine e_s rfl ?_
  refine e_s rfl ?_
  rw [show nI t + 6 = nI (t + 6) from nI_add t 6]
  exact fin
theorem sc_13 (h : StL xs L so dr ds I n) (ht : t + 6 ≤ L) (hL : L ≤ 3072) (hn : n + 3 < 1000000) (hj : xs t &&& 31 = nI 13) (IH : ∀ I2 J2 n' q' dr' ds', n' ≤ n + 3 → q' ≤ q + 324 → StL xs L so dr' ds' I2 n' → ∃ I' J' R' S' n2 q2, n2 ≤ 2000 ∧ q2 ≤ 200000 ∧ px_ev 800 0 18 [some (.ref 1000000), some (.ref 0), some (.ref 31), some (.int (nI (t + 6)))] [] I2 J2 (dR so dr') (dS L ds') n' q' (some (.int 1), I', J', R', S', n2, q2)) : ∃ I' J' R' S' n2 q2, n2 ≤ 2000 ∧ q2 ≤ 200000 ∧ px_ev 800 0 27 [some (.ref 1000000), some (.ref 0), some (.ref 31), some (.int (nI t))] [] I J (dR so dr) (dS L ds) n q (some (.int 1), I', J', R', S', n2, q2) := by
  have ro : ∀ j, I 1000000 j = xs j := by
    obtain ⟨cc, tc, rl, sg, tp, ca, kd, nb, ta, ua, wa, tz, h⟩ := h
    exact fun j => (h.2.2.2.2.2.2.2.1 1000000 j (by decide)).trans rfl
  obtain ⟨v', I1, J1, I2, J2, n', q', dr', ds', hn', hq', r1, r2, st'⟩ := k_peep (q := q) (J := J) (x := xs (t + 1)) (y := xs (t + 2)) h hn
  have ro1 : ∀ j, I1 1000000 j = xs j := fun j => (mt_ro r1 rfl j).trans (ro j)
  obtain ⟨I', J', R', S', n2, q2, b1, b2, fin⟩ := IH I2 J2 n' q' dr' ds' hn' hq' st'
  refine ⟨I', J', R', S', n2, q2, b1, b2, ?_⟩
  refine e_s rfl ?_
  refine e_s rfl ?_
  refine e_ia rfl rfl rfl (show t < L by omega) (by omega) ?_
  rw [ro t]
  refine e_s rfl ?_
  refine e_s rfl ?_
  rw [hj]
  refine e_s rfl ?_
  refine e_s rfl ?_
  refine e_s rfl ?_
  refine e_s rfl ?_
  refine e_s rfl ?_
  refine e_s rfl ?_
  rw [show nI t + 1 = nI (t + 1) from nI_add t 1]
  refine e_ia rfl rfl rfl (show t + 1 < L by omega) (by omega) ?_
  rw [ro (t + 1)]
  refine e_s rfl ?_
  refine e_s rfl ?_
  refine e_s rfl ?_
  refine e_s rfl ?_
  rw [show nI t + 2 = nI (t + 2) from nI_add t 2]
  refine e_ia rfl rfl rfl (show t + 2 < L by omega) (by omega) ?_
  rw [ro (t + 2)]
  refine e_c rfl r1 (by omega) ?_
  refine e_s rfl ?_
  refine e_s rfl ?_
  refine e_s rfl ?_
  refine e_s rfl ?_
  refine e_s rfl ?_
  rw [show nI t + 1 = nI (t + 1) from nI_add t 1]
  refine e_ia rfl rfl rfl (show t + 1 < L by omega) (by omega) ?_
  rw [ro1 (t + 1)]
  refine e_s rfl ?_
  refine e_s rfl ?_
  refine e_s rfl ?_
  refine e_s rfl ?_
  rw [show nI t + 2 = nI (t + 2) from nI_add t 2]
  refine e_ia rfl rfl rfl (show t + 2 < L by omega) (by omega) ?_
  rw [ro1 (t + 2)]
  refine e_c rfl r2 (by omega) ?_
  refine e_s rfl ?_
  refine e_s rfl ?_
  refine e_bt ((lg_cmp_eq _ _).mpr rfl) ?_
  refine e_s rfl ?_
  refine e_s rfl ?_
  rw [show nI t + 6 = nI (t + 6) from nI_add t 6]
  exact fin
theorem sc_14 (h : StL xs L so dr ds I n) (ht : t + 6 ≤ L) (hL : L ≤ 3072) (hn : n + 3 < 1000000) (hj : xs t &&& 31 = nI 14) (IH : ∀ I2 J2 n' q' dr' ds', n' ≤ n + 3 → q' ≤ q + 324 → StL xs L so dr' ds' I2 n' → ∃ I' J' R' S' n2 q2, n2 ≤ 2000 ∧ q2 ≤ 200000 ∧ px_ev 800 0 18 [some (.ref 1000000), some (.ref 0), some (.ref 31), some (.int (nI (t + 6)))] [] I2 J2 (dR so dr') (dS L ds') n' q' (some (.int 1), I', J', R', S', n2, q2)) : ∃ I' J' R' S' n2 q2, n2 ≤ 2000 ∧ q2 ≤ 200000 ∧ px_ev 800 0 27 [some (.ref 1000000), some (.ref 0), some (.ref 31), some (.int (nI t))] [] I J (dR so dr) (dS L ds) n q (some (.int 1), I', J', R', S', n2, q2) := by
  have ro : ∀ j, I 1000000 j = xs j := by
    obtain ⟨cc, tc, rl, sg, tp, ca, kd, nb, ta, ua, wa, tz, h⟩ := h
    exact fun j => (h.2.2.2.2.2.2.2.1 1000000 j (by decide)).trans rfl
  obtain ⟨v', I1, J1, I2, J2, n', q', dr', ds', hn', hq', r1, r2, st'⟩ := k_tells (q := q) (J := J)  h hn
  have ro1 : ∀ j, I1 1000000 j = xs j := fun j => (mt_ro r1 rfl j).trans (ro j)
  obtain ⟨I', J', R', S', n2, q2, b1, b2, fin⟩ := IH I2 J2 n' q' dr' ds' hn' hq' st'
  refine ⟨I', J', R', S', n2, q2, b1, b2, ?_⟩
  refine e_s rfl ?_
  refine e_s rfl ?_
  refine e_ia rfl rfl rfl (show t < L by omega) (by omega) ?_
  rw [ro t]
  refine e_s rfl ?_
  refine e_s rfl ?_
  rw [hj]
  refine e_s rfl ?_
  refine e_s rfl ?_
  refine e_c rfl r1 (by omega) ?_
  refine e_s rfl ?_
  refine e_c rfl r2 (by omega) ?_
  refine e_s rfl ?_
  refine e_bt (Eq.refl v') ?_
  refine e_s rfl ?_
  refine e_s rfl ?_
  rw [show nI t + 6 = nI (t + 6) from nI_add t 6]
  exact fin
theorem sc_15 (h : StL xs L so dr ds I n) (ht : t + 6 ≤ L) (hL : L ≤ 3072) (hn : n + 3 < 1000000) (hj : xs t &&& 31 = nI 15) (IH : ∀ I2 J2 n' q' dr' ds', n' ≤ n + 3 → q' ≤ q + 324 → StL xs L so dr' ds' I2 n' → ∃ I' J' R' S' n2 q2, n2 ≤ 2000 ∧ q2 ≤ 200000 ∧ px_ev 800 0 18 [some (.ref 1000000), some (.ref 0), some (.ref 31), some (.int (nI (t + 6)))] [] I2 J2 (dR so dr') (dS L ds') n' q' (some (.int 1), I', J', R', S', n2, q2)) : ∃ I' J' R' S' n2 q2, n2 ≤ 2000 ∧ q2 ≤ 200000 ∧ px_ev 800 0 27 [some (.ref 1000000), some (.ref 0), some (.ref 31), some (.int (nI t))] [] I J (dR so dr) (dS L ds) n q (some (.int 1), I', J', R', S', n2, q2) := by
  have ro : ∀ j, I 1000000 j = xs j := by
    obtain ⟨cc, tc, rl, sg, tp, ca, kd, nb, ta, ua, wa, tz, h⟩ := h
    exact fun j => (h.2.2.2.2.2.2.2.1 1000000 j (by decide)).trans rfl
  obtain ⟨v', I1, J1, I2, J2, n', q', dr', ds', hn', hq', r1, r2, st'⟩ := k_guard (q := q) (J := J) (x := xs (t + 1)) h hn
  have ro1 : ∀ j, I1 1000000 j = xs j := fun j => (mt_ro r1 rfl j).trans (ro j)
  obtain ⟨I', J', R', S', n2, q2, b1, b2, fin⟩ := IH I2 J2 n' q' dr' ds' hn' hq' st'
  refine ⟨I', J', R', S', n2, q2, b1, b2, ?_⟩
  refine e_s rfl ?_
  refine e_s rfl ?_
  refine e_ia rfl rfl rfl (show t < L by omega) (by omega) ?_
  rw [ro t]
  refine e_s rfl ?_
  refine e_s rfl ?_
  rw [hj]
  refine e_s rfl ?_
  refine e_s rfl ?_
  refine e_s rfl ?_
  refine e_s rfl ?_
  refine e_s rfl ?_
  refine e_s rfl ?_
  rw [show nI t + 1 = nI (t + 1) from nI_add t 1]
  refine e_ia rfl rfl rfl (show t + 1 < L by omega) (by omega) ?_
  rw [ro (t + 1)]
  refine e_c rfl r1 (by omega) ?_
  refine e_s rfl ?_
  refine e_s rfl ?_
  refine e_s rfl ?_
  refine e_s rfl ?_
  refine e_s rfl ?_
  rw [show nI t + 1 = nI (t + 1) from nI_add t 1]
  refine e_ia rfl rfl rfl (show t + 1 < L by omega) (by omega) ?_
  rw [ro1 (t + 1)]
  refine e_c rfl r2 (by omega) ?_
  refine e_s rfl ?_
  refine e_s rfl ?_
  refine e_bt ((lg_cmp_eq _ _).mpr rfl) ?_
  refine e_s rfl ?_
  refine e_s rfl ?_
  rw [show nI t + 6 = nI (t + 6) from nI_add t 6]
  exact fin
theorem sc_16 (h : StL xs L so dr ds I n) (ht : t + 6 ≤ L) (hL : L ≤ 3072) (hn : n + 3 < 1000000) (hj : xs t &&& 31 = nI 16) (IH : ∀ I2 J2 n' q' dr' ds', n' ≤ n + 3 → q' ≤ q + 324 → StL xs L so dr' ds' I2 n' → ∃ I' J' R' S' n2 q2, n2 ≤ 2000 ∧ q2 ≤ 200000 ∧ px_ev 800 0 18 [some (.ref 1000000), some (.ref 0), some (.ref 31), some (.int (nI (t + 6)))] [] I2 J2 (dR so dr') (dS L ds') n' q' (some (.int 1), I', J', R', S', n2, q2)) : ∃ I' J' R' S' n2 q2, n2 ≤ 2000 ∧ q2 ≤ 200000 ∧ px_ev 800 0 27 [some (.ref 1000000), some (.ref 0), some (.ref 31), some (.int (nI t))] [] I J (dR so dr) (dS L ds) n q (some (.int 1), I', J', R', S', n2, q2) := by
  have ro : ∀ j, I 1000000 j = xs j := by
    obtain ⟨cc, tc, rl, sg, tp, ca, kd, nb, ta, ua, wa, tz, h⟩ := h
    exact fun j => (h.2.2.2.2.2.2.2.1 1000000 j (by decide)).trans rfl
  obtain ⟨v', I1, J1, I2, J2, n', q', dr', ds', hn', hq', r1, r2, st'⟩ := k_home (q := q) (J := J) (x := xs (t + 1)) (w := xs (t + 2)) h hn
  have ro1 : ∀ j, I1 1000000 j = xs j := fun j => (mt_ro r1 rfl j).trans (ro j)
  obtain ⟨I', J', R', S', n2, q2, b1, b2, fin⟩ := IH I2 J2 n' q' dr' ds' hn' hq' st'
  refine ⟨I', J', R', S', n2, q2, b1, b2, ?_⟩
  refine e_s rfl ?_
  refine e_s rfl ?_
  refine e_ia rfl rfl rfl (show t < L by omega) (by omega) ?_
  rw [ro t]
  refine e_s rfl ?_
  refine e_s rfl ?_
  rw [hj]
  refine e_s rfl ?_
  refine e_s rfl ?_
  refine e_s rfl ?_
  refine e_s rfl ?_
  refine e_s rfl ?_
  refine e_s rfl ?_
  rw [show nI t + 1 = nI (t + 1) from nI_add t 1]
  refine e_ia rfl rfl rfl (show t + 1 < L by omega) (by omega) ?_
  rw [ro (t + 1)]
  refine e_s rfl ?_
  refine e_s rfl ?_
  refine e_s rfl ?_
  refine e_s rfl ?_
  rw [show nI t + 2 = nI (t + 2) from nI_add t 2]
  refine e_ia rfl rfl rfl (show t + 2 < L by omega) (by omega) ?_
  rw [ro (t + 2)]
  refine e_c rfl r1 (by omega) ?_
  refine e_s rfl ?_
  refine e_s rfl ?_
  refine e_s rfl ?_
  refine e_s rfl ?_
  refine e_s rfl ?_
  rw [show nI t + 1 = nI (t + 1) from nI_add t 1]
  refine e_ia rfl rfl rfl (show t + 1 < L by omega) (by omega) ?_
  rw [ro1 (t + 1)]
  refine e_s rfl ?_
  refine e_s rfl ?_
  refine e_s rfl ?_
  refine e_s rfl ?_
  rw [show nI t + 2 = nI (t + 2) from nI_add t 2]
  refine e_ia rfl rfl rfl (show t + 2 < L by omega) (by omega) ?_
  rw [ro1 (t + 2)]
  refine e_c rfl r2 (by omega) ?_
  refine e_s rfl ?_
  refine e_s rfl ?_
  refine e_bt ((lg_cmp_eq _ _).mpr rfl) ?_
  refine e_s rfl ?_
  refine e_s rfl ?_
  rw [show nI t + 6 = nI (t + 6) from nI_add t 6]
  exact fin
theorem sc_17 (h : StL xs L so dr ds I n) (ht : t + 6 ≤ L) (hL : L ≤ 3072) (hn : n + 3 < 1000000) (hj : xs t &&& 31 = nI 17) (IH : ∀ I2 J2 n' q' dr' ds', n' ≤ n + 3 → q' ≤ q + 324 → StL xs L so dr' ds' I2 n' → ∃ I' J' R' S' n2 q2, n2 ≤ 2000 ∧ q2 ≤ 200000 ∧ px_ev 800 0 18 [some (.ref 1000000), some (.ref 0), some (.ref 31), some (.int (nI (t + 6)))] [] I2 J2 (dR so dr') (dS L ds') n' q' (some (.int 1), I', J', R', S', n2, q2)) : ∃ I' J' R' S' n2 q2, n2 ≤ 2000 ∧ q2 ≤ 200000 ∧ px_ev 800 0 27 [some (.ref 1000000), some (.ref 0), some (.ref 31), some (.int (nI t))] [] I J (dR so dr) (dS L ds) n q (some (.int 1), I', J', R', S', n2, q2) := by
  have ro : ∀ j, I 1000000 j = xs j := by
    obtain ⟨cc, tc, rl, sg, tp, ca, kd, nb, ta, ua, wa, tz, h⟩ := h
    exact fun j => (h.2.2.2.2.2.2.2.1 1000000 j (by decide)).trans rfl
  obtain ⟨v', I1, J1, I2, J2, n', q', dr', ds', hn', hq', r1, r2, st'⟩ := k_cards (q := q) (J := J) (x := xs (t + 1)) h hn
  have ro1 : ∀ j, I1 1000000 j = xs j := fun j => (mt_ro r1 rfl j).trans (ro j)
  obtain ⟨I', J', R', S', n2, q2, b1, b2, fin⟩ := IH I2 J2 n' q' dr' ds' hn' hq' st'
  refine ⟨I', J', R', S', n2, q2, b1, b2, ?_⟩
  refine e_s rfl ?_
  refine e_s rfl ?_
  refine e_ia rfl rfl rfl (show t < L by omega) (by omega) ?_
  rw [ro t]
  refine e_s rfl ?_
  refine e_s rfl ?_
  rw [hj]
  refine e_s rfl ?_
  refine e_s rfl ?_
  refine e_s rfl ?_
  refine e_s rfl ?_
  refine e_s rfl ?_
  refine e_s rfl ?_
  rw [show nI t + 1 = nI (t + 1) from nI_add t 1]
  refine e_ia rfl rfl rfl (show t + 1 < L by omega) (by omega) ?_
  rw [ro (t + 1)]
  refine e_c rfl r1 (by omega) ?_
  refine e_s rfl ?_
  refine e_s rfl ?_
  refine e_s rfl ?_
  refine e_s rfl ?_
  refine e_s rfl ?_
  rw [show nI t + 1 = nI (t + 1) from nI_add t 1]
  refine e_ia rfl rfl rfl (show t + 1 < L by omega) (by omega) ?_
  rw [ro1 (t + 1)]
  refine e_c rfl r2 (by omega) ?_
  refine e_s rfl ?_
  refine e_bt (Eq.refl v') ?_
  refine e_s rfl ?_
  refine e_s rfl ?_
  rw [show nI t + 6 = nI (t + 6) from nI_add t 6]
  exact fin
theorem sc_18 (h : StL xs L so dr ds I n) (ht : t + 6 ≤ L) (hL : L ≤ 3072) (hn : n + 3 < 1000000) (hj : xs t &&& 31 = nI 18) (IH : ∀ I2 J2 n' q' dr' ds', n' ≤ n + 3 → q' ≤ q + 324 → StL xs L so dr' ds' I2 n' → ∃ I' J' R' S' n2 q2, n2 ≤ 2000 ∧ q2 ≤ 200000 ∧ px_ev 800 0 18 [some (.ref 1000000), some (.ref 0), some (.ref 31), some (.int (nI (t + 6)))] [] I2 J2 (dR so dr') (dS L ds') n' q' (some (.int 1), I', J', R', S', n2, q2)) : ∃ I' J' R' S' n2 q2, n2 ≤ 2000 ∧ q2 ≤ 200000 ∧ px_ev 800 0 27 [some (.ref 1000000), some (.ref 0), some (.ref 31), some (.int (nI t))] [] I J (dR so dr) (dS L ds) n q (some (.int 1), I', J', R', S', n2, q2) := by
  have ro : ∀ j, I 1000000 j = xs j := by
    obtain ⟨cc, tc, rl, sg, tp, ca, kd, nb, ta, ua, wa, tz, h⟩ := h
    exact fun j => (h.2.2.2.2.2.2.2.1 1000000 j (by decide)).trans rfl
  obtain ⟨v', I1, J1, I2, J2, n', q', dr', ds', hn', hq', r1, r2, st'⟩ := k_runs (q := q) (J := J)  h hn
  have ro1 : ∀ j, I1 1000000 j = xs j := fun j => (mt_ro r1 rfl j).trans (ro j)
  obtain ⟨I', J', R', S', n2, q2, b1, b2, fin⟩ := IH I2 J2 n' q' dr' ds' hn' hq' st'
  refine ⟨I', J', R', S', n2, q2, b1, b2, ?_⟩
  refine e_s rfl ?_
  refine e_s rfl ?_
  refine e_ia rfl rfl rfl (show t < L by omega) (by omega) ?_
  rw [ro t]
  refine e_s rfl ?_
  refine e_s rfl ?_
  rw [hj]
  refine e_s rfl ?_
  refine e_s rfl ?_
  refine e_c rfl r1 (by omega) ?_
  refine e_s rfl ?_
  refine e_c rfl r2 (by omega) ?_
  refine e_s rfl ?_
  refine e_bt (Eq.refl v') ?_
  refine e_s rfl ?_
  refine e_s rfl ?_
  rw [show nI t + 6 = nI (t + 6) from nI_add t 6]
  exact fin
theorem sc_19 (h : StL xs L so dr ds I n) (ht : t + 6 ≤ L) (hL : L ≤ 3072) (hn : n + 3 < 1000000) (hj : xs t &&& 31 = nI 19) (IH : ∀ I2 J2 n' q' dr' ds', n' ≤ n + 3 → q' ≤ q + 324 → StL xs L so dr' ds' I2 n' → ∃ I' J' R' S' n2 q2, n2 ≤ 2000 ∧ q2 ≤ 200000 ∧ px_ev 800 0 18 [some (.ref 1000000), some (.ref 0), some (.ref 31), some (.int (nI (t + 6)))] [] I2 J2 (dR so dr') (dS L ds') n' q' (some (.int 1), I', J', R', S', n2, q2)) : ∃ I' J' R' S' n2 q2, n2 ≤ 2000 ∧ q2 ≤ 200000 ∧ px_ev 800 0 27 [some (.ref 1000000), some (.ref 0), some (.ref 31), some (.int (nI t))] [] I J (dR so dr) (dS L ds) n q (some (.int 1), I', J', R', S', n2, q2) := by
  have ro : ∀ j, I 1000000 j = xs j := by
    obtain ⟨cc, tc, rl, sg, tp, ca, kd, nb, ta, ua, wa, tz, h⟩ := h
    exact fun j => (h.2.2.2.2.2.2.2.1 1000000 j (by decide)).trans rfl
  obtain ⟨v', I1, J1, I2, J2, n', q', dr', ds', hn', hq', r1, r2, st'⟩ := k_judge (q := q) (J := J) (x := xs (t + 1)) h hn
  have ro1 : ∀ j, I1 1000000 j = xs j := fun j => (mt_ro r1 rfl j).trans (ro j)
  obtain ⟨I', J', R', S', n2, q2, b1, b2, fin⟩ := IH I2 J2 n' q' dr' ds' hn' hq' st'
  refine ⟨I', J', R', S', n2, q2, b1, b2, ?_⟩
  refine e_s rfl ?_
  refine e_s rfl ?_
  refine e_ia rfl rfl rfl (show t < L by omega) (by omega) ?_
  rw [ro t]
  refine e_s rfl ?_
  refine e_s rfl ?_
  rw [hj]
  refine e_s rfl ?_
  refine e_s rfl ?_
  refine e_s rfl ?_
  refine e_s rfl ?_
  refine e_s rfl ?_
  refine e_s rfl ?_
  rw [show nI t + 1 = nI (t + 1) from nI_add t 1]
  refine e_ia rfl rfl rfl (show t + 1 < L by omega) (by omega) ?_
  rw [ro (t + 1)]
  refine e_c rfl r1 (by omega) ?_
  refine e_s rfl ?_
  refine e_s rfl ?_
  refine e_s rfl ?_
  refine e_s rfl ?_
  refine e_s rfl ?_
  rw [show nI t + 1 = nI (t + 1) from nI_add t 1]
  refine e_ia rfl rfl rfl (show t + 1 < L by omega) (by omega) ?_
  rw [ro1 (t + 1)]
  refine e_c rfl r2 (by omega) ?_
  refine e_s rfl ?_
  refine e_bt (Eq.refl v') ?_
  refine e_s rfl ?_
  refine e_s rfl ?_
  rw [show nI t + 6 = nI (t + 6) from nI_add t 6]
  exact fin
theorem sc_20 (h : StL xs L so dr ds I n) (ht : t + 6 ≤ L) (hL : L ≤ 3072) (hn : n + 3 < 1000000) (hj : xs t &&& 31 = nI 20) (IH : ∀ I2 J2 n' q' dr' ds', n' ≤ n + 3 → q' ≤ q + 324 → StL xs L so dr' ds' I2 n' → ∃ I' J' R' S' n2 q2, n2 ≤ 2000 ∧ q2 ≤ 200000 ∧ px_ev 800 0 18 [some (.ref 1000000), some (.ref 0), some (.ref 31), some (.int (nI (t + 6)))] [] I2 J2 (dR so dr') (dS L ds') n' q' (some (.int 1), I', J', R', S', n2, q2)) : ∃ I' J' R' S' n2 q2, n2 ≤ 2000 ∧ q2 ≤ 200000 ∧ px_ev 800 0 27 [some (.ref 1000000), some (.ref 0), some (.ref 31), some (.int (nI t))] [] I J (dR so dr) (dS L ds) n q (some (.int 1), I', J', R', S', n2, q2) := by
  have ro : ∀ j, I 1000000 j = xs j := by
    obtain ⟨cc, tc, rl, sg, tp, ca, kd, nb, ta, ua, wa, tz, h⟩ := h
    exact fun j => (h.2.2.2.2.2.2.2.1 1000000 j (by decide)).trans rfl
  obtain ⟨v', I1, J1, I2, J2, n', q', dr', ds', hn', hq', r1, r2, st'⟩ := k_fits (q := q) (J := J) (x := xs (t + 1)) h hn
  have ro1 : ∀ j, I1 1000000 j = xs j := fun j => (mt_ro r1 rfl j).trans (ro j)
  obtain ⟨I', J', R', S', n2, q2, b1, b2, fin⟩ := IH I2 J2 n' q' dr' ds' hn' hq' st'
  refine ⟨I', J', R', S', n2, q2, b1, b2, ?_⟩
  refine e_s rfl ?_
  refine e_s rfl ?_
  refine e_ia rfl rfl rfl (show t < L by omega) (by omega) ?_
  rw [ro t]
  refine e_s rfl ?_
  refine e_s rfl ?_
  rw [hj]
  refine e_s rfl ?_
  refine e_s rfl ?_
  refine e_s rfl ?_
  refine e_s rfl ?_
  refine e_s rfl ?_
  refine e_s rfl ?_
  rw [show nI t + 1 = nI (t + 1) from nI_add t 1]
  refine e_ia rfl rfl rfl (show t + 1 < L by omega) (by omega) ?_
  rw [ro (t + 1)]
  refine e_c rfl r1 (by omega) ?_
  refine e_s rfl ?_
  refine e_s rfl ?_
  refine e_s rfl ?_
  refine e_s rfl ?_
  refine e_s rfl ?_
  rw [show nI t + 1 = nI (t + 1) from nI_add t 1]
  refine e_ia rfl rfl rfl (show t + 1 < L by omega) (by omega) ?_
  rw [ro1 (t + 1)]
  refine e_c rfl r2 (by omega) ?_
  refine e_s rfl ?_
  refine e_bt (Eq.refl v') ?_
  refine e_s rfl ?_
  refine e_s rfl ?_
  rw [show nI t + 6 = nI (t + 6) from nI_add t 6]
  exact fin
theorem sc_21 (h : StL xs L so dr ds I n) (ht : t + 6 ≤ L) (hL : L ≤ 3072) (hn : n + 3 < 1000000) (hj : xs t &&& 31 = nI 21) (IH : ∀ I2 J2 n' q' dr' ds', n' ≤ n + 3 → q' ≤ q + 324 → StL xs L so dr' ds' I2 n' → ∃ I' J' R' S' n2 q2, n2 ≤ 2000 ∧ q2 ≤ 200000 ∧ px_ev 800 0 18 [some (.ref 1000000), some (.ref 0), some (.ref 31), some (.int (nI (t + 6)))] [] I2 J2 (dR so dr') (dS L ds') n' q' (some (.int 1), I', J', R', S', n2, q2)) : ∃ I' J' R' S' n2 q2, n2 ≤ 2000 ∧ q2 ≤ 200000 ∧ px_ev 800 0 27 [some (.ref 1000000), some (.ref 0), some (.ref 31), some (.int (nI t))] [] I J (dR so dr) (dS L ds) n q (some (.int 1), I', J', R', S', n2, q2) := by
  have ro : ∀ j, I 1000000 j = xs j := by
    obtain ⟨cc, tc, rl, sg, tp, ca, kd, nb, ta, ua, wa, tz, h⟩ := h
    exact fun j => (h.2.2.2.2.2.2.2.1 1000000 j (by decide)).trans rfl
  obtain ⟨v', I1, J1, I2, J2, n', q', dr', ds', hn', hq', r1, r2, st'⟩ := k_laws (q := q) (J := J) (x := xs (t + 1)) h hn
  have ro1 : ∀ j, I1 1000000 j = xs j := fun j => (mt_ro r1 rfl j).trans (ro j)
  obtain ⟨I', J', R', S', n2, q2, b1, b2, fin⟩ := IH I2 J2 n' q' dr' ds' hn' hq' st'
  refine ⟨I', J', R', S', n2, q2, b1, b2, ?_⟩
  refine e_s rfl ?_
  refine e_s rfl ?_
  refine e_ia rfl rfl rfl (show t < L by omega) (by omega) ?_
  rw [ro t]
  refine e_s rfl ?_
  refine e_s rfl ?_
  rw [hj]
  refine e_s rfl ?_
  refine e_s rfl ?_
  refine e_s rfl ?_
  refine e_s rfl ?_
  refine e_s rfl ?_
  refine e_s rfl ?_
  rw [show nI t + 1 = nI (t + 1) from nI_add t 1]
  refine e_ia rfl rfl rfl (show t + 1 < L by omega) (by omega) ?_
  rw [ro (t + 1)]
  refine e_c rfl r1 (by omega) ?_
  refine e_s rfl ?_
  refine e_s rfl ?_
  refine e_s rfl ?_
  refine e_s rfl ?_
  refine e_s rfl ?_
  rw [show nI t + 1 = nI (t + 1) from nI_add t 1]
  refine e_ia rfl rfl rfl (show t + 1 < L by omega) (by omega) ?_
  rw [ro1 (t + 1)]
  refine e_c rfl r2 (by omega) ?_
  refine e_s rfl ?_
  refine e_bt (Eq.refl v') ?_
  refine e_s rfl ?_
  refine e_s rfl ?_
  rw [show nI t + 6 = nI (t + 6) from nI_add t 6]
  exact fin
theorem sc_22 (h : StL xs L so dr ds I n) (ht : t + 6 ≤ L) (hL : L ≤ 3072) (hn : n + 3 < 1000000) (hj : xs t &&& 31 = nI 22) (IH : ∀ I2 J2 n' q' dr' ds', n' ≤ n + 3 → q' ≤ q + 324 → StL xs L so dr' ds' I2 n' → ∃ I' J' R' S' n2 q2, n2 ≤ 2000 ∧ q2 ≤ 200000 ∧ px_ev 800 0 18 [some (.ref 1000000), some (.ref 0), some (.ref 31), some (.int (nI (t + 6)))] [] I2 J2 (dR so dr') (dS L ds') n' q' (some (.int 1), I', J', R', S', n2, q2)) : ∃ I' J' R' S' n2 q2, n2 ≤ 2000 ∧ q2 ≤ 200000 ∧ px_ev 800 0 27 [some (.ref 1000000), some (.ref 0), some (.ref 31), some (.int (nI t))] [] I J (dR so dr) (dS L ds) n q (some (.int 1), I', J', R', S', n2, q2) := by
  have ro : ∀ j, I 1000000 j = xs j := by
    obtain ⟨cc, tc, rl, sg, tp, ca, kd, nb, ta, ua, wa, tz, h⟩ := h
    exact fun j => (h.2.2.2.2.2.2.2.1 1000000 j (by decide)).trans rfl
  obtain ⟨v', I1, J1, I2, J2, n', q', dr', ds', hn', hq', r1, r2, st'⟩ := k_drawn (q := q) (J := J) (x := xs (t + 1)) (y := xs (t + 2)) h hn
  have ro1 : ∀ j, I1 1000000 j = xs j := fun j => (mt_ro r1 rfl j).trans (ro j)
  obtain ⟨I', J', R', S', n2, q2, b1, b2, fin⟩ := IH I2 J2 n' q' dr' ds' hn' hq' st'
  refine ⟨I', J', R', S', n2, q2, b1, b2, ?_⟩
  refine e_s rfl ?_
  refine e_s rfl ?_
  refine e_ia rfl rfl rfl (show t < L by omega) (by omega) ?_
  rw [ro t]
  refine e_s rfl ?_
  refine e_s rfl ?_
  rw [hj]
  refine e_s rfl ?_
  refine e_s rfl ?_
  refine e_s rfl ?_
  refine e_s rfl ?_
  refine e_s rfl ?_
  refine e_s rfl ?_
  rw [show nI t + 1 = nI (t + 1) from nI_add t 1]
  refine e_ia rfl rfl rfl (show t + 1 < L by omega) (by omega) ?_
  rw [ro (t + 1)]
  refine e_s rfl ?_
  refine e_s rfl ?_
  refine e_s rfl ?_
  refine e_s rfl ?_
  rw [show nI t + 2 = nI (t + 2) from nI_add t 2]
  refine e_ia rfl rfl rfl (show t + 2 < L by omega) (by omega) ?_
  rw [ro (t + 2)]
  refine e_c rfl r1 (by omega) ?_
  refine e_s rfl ?_
  refine e_s rfl ?_
  refine e_s rfl ?_
  refine e_s rfl ?_
  refine e_s rfl ?_
  rw [show nI t + 1 = nI (t + 1) from nI_add t 1]
  refine e_ia rfl rfl rfl (show t + 1 < L by omega) (by omega) ?_
  rw [ro1 (t + 1)]
  refine e_s rfl ?_
  refine e_s rfl ?_
  refine e_s rfl ?_
  refine e_s rfl ?_
  rw [show nI t + 2 = nI (t + 2) from nI_add t 2]
  refine e_ia rfl rfl rfl (show t + 2 < L by omega) (by omega) ?_
  rw [ro1 (t + 2)]
  refine e_c rfl r2 (by omega) ?_
  refine e_s rfl ?_
  refine e_s rfl ?_
  refine e_bt ((lg_cmp_eq _ _).mpr rfl) ?_
  refine e_s rfl ?_
  refine e_s rfl ?_
  rw [show nI t + 6 = nI (t + 6) from nI_add t 6]
  exact fin
theorem sc_23 (h : StL xs L so dr ds I n) (ht : t + 6 ≤ L) (hL : L ≤ 3072) (hn : n + 3 < 1000000) (hj : xs t &&& 31 = nI 23) (IH : ∀ I2 J2 n' q' dr' ds', n' ≤ n + 3 → q' ≤ q + 324 → StL xs L so dr' ds' I2 n' → ∃ I' J' R' S' n2 q2, n2 ≤ 2000 ∧ q2 ≤ 200000 ∧ px_ev 800 0 18 [some (.ref 1000000), some (.ref 0), some (.ref 31), some (.int (nI (t + 6)))] [] I2 J2 (dR so dr') (dS L ds') n' q' (some (.int 1), I', J', R', S', n2, q2)) : ∃ I' J' R' S' n2 q2, n2 ≤ 2000 ∧ q2 ≤ 200000 ∧ px_ev 800 0 27 [some (.ref 1000000), some (.ref 0), some (.ref 31), some (.int (nI t))] [] I J (dR so dr) (dS L ds) n q (some (.int 1), I', J', R', S', n2, q2) := by
  have ro : ∀ j, I 1000000 j = xs j := by
    obtain ⟨cc, tc, rl, sg, tp, ca, kd, nb, ta, ua, wa, tz, h⟩ := h
    exact fun j => (h.2.2.2.2.2.2.2.1 1000000 j (by decide)).trans rfl
  obtain ⟨v', I1, J1, I2, J2, n', q', dr', ds', hn', hq', r1, r2, st'⟩ := k_often (q := q) (J := J) (x := xs (t + 1)) (y := xs (t + 2)) (z := xs (t + 3)) (w := xs (t + 4)) h hn
  have ro1 : ∀ j, I1 1000000 j = xs j := fun j => (mt_ro r1 rfl j).trans (ro j)
  obtain ⟨I', J', R', S', n2, q2, b1, b2, fin⟩ := IH I2 J2 n' q' dr' ds' hn' hq' st'
  refine ⟨I', J', R', S', n2, q2, b1, b2, ?_⟩
  refine e_s rfl ?_
  refine e_s rfl ?_
  refine e_ia rfl rfl rfl (show t < L by omega) (by omega) ?_
  rw [ro t]
  refine e_s rfl ?_
  refine e_s rfl ?_
  rw [hj]
  refine e_s rfl ?_
  refine e_s rfl ?_
  refine e_s rfl ?_
  refine e_s rfl ?_
  refine e_s rfl ?_
  refine e_s rfl ?_
  rw [show nI t + 1 = nI (t + 1) from nI_add t 1]
  refine e_ia rfl rfl rfl (show t + 1 < L by omega) (by omega) ?_
  rw [ro (t + 1)]
  refine e_s rfl ?_
  refine e_s rfl ?_
  refine e_s rfl ?_
  refine e_s rfl ?_
  rw [show nI t + 2 = nI (t + 2) from nI_add t 2]
  refine e_ia rfl rfl rfl (show t + 2 < L by omega) (by omega) ?_
  rw [ro (t + 2)]
  refine e_s rfl ?_
  refine e_s rfl ?_
  refine e_s rfl ?_
  refine e_s rfl ?_
  rw [show nI t + 3 = nI (t + 3) from nI_add t 3]
  refine e_ia rfl rfl rfl (show t + 3 < L by omega) (by omega) ?_
  rw [ro (t + 3)]
  refine e_s rfl ?_
  refine e_s rfl ?_
  refine e_s rfl ?_
  refine e_s rfl ?_
  rw [show nI t + 4 = nI (t + 4) from nI_add t 4]
  refine e_ia rfl rfl rfl (show t + 4 < L by omega) (by omega) ?_
  rw [ro (t + 4)]
  refine e_c rfl r1 (by omega) ?_
  refine e_s rfl ?_
  refine e_s rfl ?_
  refine e_s rfl ?_
  refine e_s rfl ?_
  refine e_s rfl ?_
  rw [show nI t + 1 = nI (t + 1) from nI_add t 1]
  refine e_ia rfl rfl rfl (show t + 1 < L by omega) (by omega) ?_
  rw [ro1 (t + 1)]
  refine e_s rfl ?_
  refine e_s rfl ?_
  refine e_s rfl ?_
  refine e_s rfl ?_
  rw [show nI t + 2 = nI (t + 2) from nI_add t 2]
  refine e_ia rfl rfl rfl (show t + 2 < L by omega) (by omega) ?_
  rw [ro1 (t + 2)]
  refine e_s rfl ?_
  refine e_s rfl ?_
  refine e_s rfl ?_
  refine e_s rfl ?_
  rw [show nI t + 3 = nI (t + 3) from nI_add t 3]
  refine e_ia rfl rfl rfl (show t + 3 < L by omega) (by omega) ?_
  rw [ro1 (t + 3)]
  refine e_s rfl ?_
  refine e_s rfl ?_
  refine e_s rfl ?_
  refine e_s rfl ?_
  rw [show nI t + 4 = nI (t + 4) from nI_add t 4]
  refine e_ia rfl rfl rfl (show t + 4 < L by omega) (by omega) ?_
  rw [ro1 (t + 4)]
  refine e_c rfl r2 (by omega) ?_
  refine e_s rfl ?_
  refine e_s rfl ?_
  refine e_bt ((lg_cmp_eq _ _).mpr rfl) ?_
  refine e_s rfl ?_
  refine e_s rfl ?_
  rw [show nI t + 6 = nI (t + 6) from nI_add t 6]
  exact fin
theorem sc_24 (h : StL xs L so dr ds I n) (ht : t + 6 ≤ L) (hL : L ≤ 3072) (hn : n + 3 < 1000000) (hj : xs t &&& 31 = nI 24) (IH : ∀ I2 J2 n' q' dr' ds', n' ≤ n + 3 → q' ≤ q + 324 → StL xs L so dr' ds' I2 n' → ∃ I' J' R' S' n2 q2, n2 ≤ 2000 ∧ q2 ≤ 200000 ∧ px_ev 800 0 18 [some (.ref 1000000), some (.ref 0), some (.ref 31), some (.int (nI (t + 6)))] [] I2 J2 (dR so dr') (dS L ds') n' q' (some (.int 1), I', J', R', S', n2, q2)) : ∃ I' J' R' S' n2 q2, n2 ≤ 2000 ∧ q2 ≤ 200000 ∧ px_ev 800 0 27 [some (.ref 1000000), some (.ref 0), some (.ref 31), some (.int (nI t))] [] I J (dR so dr) (dS L ds) n q (some (.int 1), I', J', R', S', n2, q2) := by
  have ro : ∀ j, I 1000000 j = xs j := by
    obtain ⟨cc, tc, rl, sg, tp, ca, kd, nb, ta, ua, wa, tz, h⟩ := h
    exact fun j => (h.2.2.2.2.2.2.2.1 1000000 j (by decide)).trans rfl
  obtain ⟨v', I1, J1, I2, J2, n', q', dr', ds', hn', hq', r1, r2, st'⟩ := k_image (q := q) (J := J)  h hn
  have ro1 : ∀ j, I1 1000000 j = xs j := fun j => (mt_ro r1 rfl j).trans (ro j)
  obtain ⟨I', J', R', S', n2, q2, b1, b2, fin⟩ := IH I2 J2 n' q' dr' ds' hn' hq' st'
  refine ⟨I', J', R', S', n2, q2, b1, b2, ?_⟩
  refine e_s rfl ?_
  refine e_s rfl ?_
  refine e_ia rfl rfl rfl (show t < L by omega) (by omega) ?_
  rw [ro t]
  refine e_s rfl ?_
  refine e_s rfl ?_
  rw [hj]
  refine e_s rfl ?_
  refine e_s rfl ?_
  refine e_c rfl r1 (by omega) ?_
  refine e_s rfl ?_
  refine e_c rfl r2 (by omega) ?_
  refine e_s rfl ?_
  refine e_bt (Eq.refl v') ?_
  refine e_s rfl ?_
  refine e_s rfl ?_
  rw [show nI t + 6 = nI (t + 6) from nI_add t 6]
  exact fin
theorem sc_25 (h : StL xs L so dr ds I n) (ht : t + 6 ≤ L) (hL : L ≤ 3072) (hn : n + 3 < 1000000) (hj : xs t &&& 31 = nI 25) (IH : ∀ I2 J2 n' q' dr' ds', n' ≤ n + 3 → q' ≤ q + 324 → StL xs L so dr' ds' I2 n' → ∃ I' J' R' S' n2 q2, n2 ≤ 2000 ∧ q2 ≤ 200000 ∧ px_ev 800 0 18 [some (.ref 1000000), some (.ref 0), some (.ref 31), some (.int (nI (t + 6)))] [] I2 J2 (dR so dr') (dS L ds') n' q' (some (.int 1), I', J', R', S', n2, q2)) : ∃ I' J' R' S' n2 q2, n2 ≤ 2000 ∧ q2 ≤ 200000 ∧ px_ev 800 0 27 [some (.ref 1000000), some (.ref 0), some (.ref 31), some (.int (nI t))] [] I J (dR so dr) (dS L ds) n q (some (.int 1), I', J', R', S', n2, q2) := by
  have ro : ∀ j, I 1000000 j = xs j := by
    obtain ⟨cc, tc, rl, sg, tp, ca, kd, nb, ta, ua, wa, tz, h⟩ := h
    exact fun j => (h.2.2.2.2.2.2.2.1 1000000 j (by decide)).trans rfl
  obtain ⟨v', I1, J1, I2, J2, n', q', dr', ds', hn', hq', r1, r2, st'⟩ := k_back (q := q) (J := J)  h hn
  have ro1 : ∀ j, I1 1000000 j = xs j := fun j => (mt_ro r1 rfl j).trans (ro j)
  obtain ⟨I', J', R', S', n2, q2, b1, b2, fin⟩ := IH I2 J2 n' q' dr' ds' hn' hq' st'
  refine ⟨I', J', R', S', n2, q2, b1, b2, ?_⟩
  refine e_s rfl ?_
  refine e_s rfl ?_
  refine e_ia rfl rfl rfl (show t < L by omega) (by omega) ?_
  rw [ro t]
  refine e_s rfl ?_
  refine e_s rfl ?_
  rw [hj]
  refine e_s rfl ?_
  refine e_s rfl ?_
  refine e_c rfl r1 (by omega) ?_
  refine e_s rfl ?_
  refine e_c rfl r2 (by omega) ?_
  refine e_s rfl ?_
  refine e_bt (Eq.refl v') ?_
  refine e_s rfl ?_
  refine e_s rfl ?_
  rw [show nI t + 6 = nI (t + 6) from nI_add t 6]
  exact fin
theorem sc_26 (h : StL xs L so dr ds I n) (ht : t + 6 ≤ L) (hL : L ≤ 3072) (hn : n + 3 < 1000000) (hj : xs t &&& 31 = nI 26) (IH : ∀ I2 J2 n' q' dr' ds', n' ≤ n + 3 → q' ≤ q + 324 → StL xs L so dr' ds' I2 n' → ∃ I' J' R' S' n2 q2, n2 ≤ 2000 ∧ q2 ≤ 200000 ∧ px_ev 800 0 18 [some (.ref 1000000), some (.ref 0), some (.ref 31), some (.int (nI (t + 6)))] [] I2 J2 (dR so dr') (dS L ds') n' q' (some (.int 1), I', J', R', S', n2, q2)) : ∃ I' J' R' S' n2 q2, n2 ≤ 2000 ∧ q2 ≤ 200000 ∧ px_ev 800 0 27 [some (.ref 1000000), some (.ref 0), some (.ref 31), some (.int (nI t))] [] I J (dR so dr) (dS L ds) n q (some (.int 1), I', J', R', S', n2, q2) := by
  have ro : ∀ j, I 1000000 j = xs j := by
    obtain ⟨cc, tc, rl, sg, tp, ca, kd, nb, ta, ua, wa, tz, h⟩ := h
    exact fun j => (h.2.2.2.2.2.2.2.1 1000000 j (by decide)).trans rfl
  obtain ⟨v', I1, J1, I2, J2, n', q', dr', ds', hn', hq', r1, r2, st'⟩ := k_count (q := q) (J := J) (x := xs (t + 1)) h hn
  have ro1 : ∀ j, I1 1000000 j = xs j := fun j => (mt_ro r1 rfl j).trans (ro j)
  obtain ⟨I', J', R', S', n2, q2, b1, b2, fin⟩ := IH I2 J2 n' q' dr' ds' hn' hq' st'
  refine ⟨I', J', R', S', n2, q2, b1, b2, ?_⟩
  refine e_s rfl ?_
  refine e_s rfl ?_
  refine e_ia rfl rfl rfl (show t < L by omega) (by omega) ?_
  rw [ro t]
  refine e_s rfl ?_
  refine e_s rfl ?_
  rw [hj]
  refine e_s rfl ?_
  refine e_s rfl ?_
  refine e_s rfl ?_
  refine e_s rfl ?_
  refine e_s rfl ?_
  refine e_s rfl ?_
  rw [show nI t + 1 = nI (t + 1) from nI_add t 1]
  refine e_ia rfl rfl rfl (show t + 1 < L by omega) (by omega) ?_
  rw [ro (t + 1)]
  refine e_c rfl r1 (by omega) ?_
  refine e_s rfl ?_
  refine e_s rfl ?_
  refine e_s rfl ?_
  refine e_s rfl ?_
  refine e_s rfl ?_
  rw [show nI t + 1 = nI (t + 1) from nI_add t 1]
  refine e_ia rfl rfl rfl (show t + 1 < L by omega) (by omega) ?_
  rw [ro1 (t + 1)]
  refine e_c rfl r2 (by omega) ?_
  refine e_s rfl ?_
  refine e_bt (Eq.refl v') ?_
  refine e_s rfl ?_
  refine e_s rfl ?_
  rw [show nI t + 6 = nI (t + 6) from nI_add t 6]
  exact fin
theorem sc_27 (h : StL xs L so dr ds I n) (ht : t + 6 ≤ L) (hL : L ≤ 3072) (hn : n + 3 < 1000000) (hj : xs t &&& 31 = nI 27) (IH : ∀ I2 J2 n' q' dr' ds', n' ≤ n + 3 → q' ≤ q + 324 → StL xs L so dr' ds' I2 n' → ∃ I' J' R' S' n2 q2, n2 ≤ 2000 ∧ q2 ≤ 200000 ∧ px_ev 800 0 18 [some (.ref 1000000), some (.ref 0), some (.ref 31), some (.int (nI (t + 6)))] [] I2 J2 (dR so dr') (dS L ds') n' q' (some (.int 1), I', J', R', S', n2, q2)) : ∃ I' J' R' S' n2 q2, n2 ≤ 2000 ∧ q2 ≤ 200000 ∧ px_ev 800 0 27 [some (.ref 1000000), some (.ref 0), some (.ref 31), some (.int (nI t))] [] I J (dR so dr) (dS L ds) n q (some (.int 1), I', J', R', S', n2, q2) := by
  have ro : ∀ j, I 1000000 j = xs j := by
    obtain ⟨cc, tc, rl, sg, tp, ca, kd, nb, ta, ua, wa, tz, h⟩ := h
    exact fun j => (h.2.2.2.2.2.2.2.1 1000000 j (by decide)).trans rfl
  obtain ⟨v', I1, J1, I2, J2, n', q', dr', ds', hn', hq', r1, r2, st'⟩ := k_sheet (q := q) (J := J) (x := xs (t + 1)) (y := xs (t + 2)) (z := xs (t + 3)) h hn
  have ro1 : ∀ j, I1 1000000 j = xs j := fun j => (mt_ro r1 rfl j).trans (ro j)
  obtain ⟨I', J', R', S', n2, q2, b1, b2, fin⟩ := IH I2 J2 n' q' dr' ds' hn' hq' st'
  refine ⟨I', J', R', S', n2, q2, b1, b2, ?_⟩
  refine e_s rfl ?_
  refine e_s rfl ?_
  refine e_ia rfl rfl rfl (show t < L by omega) (by omega) ?_
  rw [ro t]
  refine e_s rfl ?_
  refine e_s rfl ?_
  rw [hj]
  refine e_s rfl ?_
  refine e_s rfl ?_
  refine e_s rfl ?_
  refine e_s rfl ?_
  refine e_s rfl ?_
  refine e_s rfl ?_
  rw [show nI t + 1 = nI (t + 1) from nI_add t 1]
  refine e_ia rfl rfl rfl (show t + 1 < L by omega) (by omega) ?_
  rw [ro (t + 1)]
  refine e_s rfl ?_
  refine e_s rfl ?_
  refine e_s rfl ?_
  refine e_s rfl ?_
  rw [show nI t + 2 = nI (t + 2) from nI_add t 2]
  refine e_ia rfl rfl rfl (show t + 2 < L by omega) (by omega) ?_
  rw [ro (t + 2)]
  refine e_s rfl ?_
  refine e_s rfl ?_
  refine e_s rfl ?_
  refine e_s rfl ?_
  rw [show nI t + 3 = nI (t + 3) from nI_add t 3]
  refine e_ia rfl rfl rfl (show t + 3 < L by omega) (by omega) ?_
  rw [ro (t + 3)]
  refine e_c rfl r1 (by omega) ?_
  refine e_s rfl ?_
  refine e_s rfl ?_
  refine e_s rfl ?_
  refine e_s rfl ?_
  refine e_s rfl ?_
  rw [show nI t + 1 = nI (t + 1) from nI_add t 1]
  refine e_ia rfl rfl rfl (show t + 1 < L by omega) (by omega) ?_
  rw [ro1 (t + 1)]
  refine e_s rfl ?_
  refine e_s rfl ?_
  refine e_s rfl ?_
  refine e_s rfl ?_
  rw [show nI t + 2 = nI (t + 2) from nI_add t 2]
  refine e_ia rfl rfl rfl (show t + 2 < L by omega) (by omega) ?_
  rw [ro1 (t + 2)]
  refine e_s rfl ?_
  refine e_s rfl ?_
  refine e_s rfl ?_
  refine e_s rfl ?_
  rw [show nI t + 3 = nI (t + 3) from nI_add t 3]
  refine e_ia rfl rfl rfl (show t + 3 < L by omega) (by omega) ?_
  rw [ro1 (t + 3)]
  refine e_c rfl r2 (by omega) ?_
  refine e_s rfl ?_
  refine e_bt (Eq.refl v') ?_
  refine e_s rfl ?_
  refine e_s rfl ?_
  rw [show nI t + 6 = nI (t + 6) from nI_add t 6]
  exact fin
theorem sc_28 (h : StL xs L so dr ds I n) (ht : t + 6 ≤ L) (hL : L ≤ 3072) (hn : n + 3 < 1000000) (hj : xs t &&& 31 = nI 28) (IH : ∀ I2 J2 n' q' dr' ds', n' ≤ n + 3 → q' ≤ q + 324 → StL xs L so dr' ds' I2 n' → ∃ I' J' R' S' n2 q2, n2 ≤ 2000 ∧ q2 ≤ 200000 ∧ px_ev 800 0 18 [some (.ref 1000000), some (.ref 0), some (.ref 31), some (.int (nI (t + 6)))] [] I2 J2 (dR so dr') (dS L ds') n' q' (some (.int 1), I', J', R', S', n2, q2)) : ∃ I' J' R' S' n2 q2, n2 ≤ 2000 ∧ q2 ≤ 200000 ∧ px_ev 800 0 27 [some (.ref 1000000), some (.ref 0), some (.ref 31), some (.int (nI t))] [] I J (dR so dr) (dS L ds) n q (some (.int 1), I', J', R', S', n2, q2) := by
  have ro : ∀ j, I 1000000 j = xs j := by
    obtain ⟨cc, tc, rl, sg, tp, ca, kd, nb, ta, ua, wa, tz, h⟩ := h
    exact fun j => (h.2.2.2.2.2.2.2.1 1000000 j (by decide)).trans rfl
  obtain ⟨v', I1, J1, I2, J2, n', q', dr', ds', hn', hq', r1, r2, st'⟩ := k_cell (q := q) (J := J) (x := xs (t + 1)) (y := xs (t + 2)) (z := xs (t + 3)) h hn
  have ro1 : ∀ j, I1 1000000 j = xs j := fun j => (mt_ro r1 rfl j).trans (ro j)
  obtain ⟨I', J', R', S', n2, q2, b1, b2, fin⟩ := IH I2 J2 n' q' dr' ds' hn' hq' st'
  refine ⟨I', J', R', S', n2, q2, b1, b2, ?_⟩
  refine e_s rfl ?_
  refine e_s rfl ?_
  refine e_ia rfl rfl rfl (show t < L by omega) (by omega) ?_
  rw [ro t]
  refine e_s rfl ?_
  refine e_s rfl ?_
  rw [hj]
  refine e_s rfl ?_
  refine e_s rfl ?_
  refine e_s rfl ?_
  refine e_s rfl ?_
  refine e_s rfl ?_
  refine e_s rfl ?_
  rw [show nI t + 1 = nI (t + 1) from nI_add t 1]
  refine e_ia rfl rfl rfl (show t + 1 < L by omega) (by omega) ?_
  rw [ro (t + 1)]
  refine e_s rfl ?_
  refine e_s rfl ?_
  refine e_s rfl ?_
  refine e_s rfl ?_
  rw [show nI t + 2 = nI (t + 2) from nI_add t 2]
  refine e_ia rfl rfl rfl (show t + 2 < L by omega) (by omega) ?_
  rw [ro (t + 2)]
  refine e_s rfl ?_
  refine e_s rfl ?_
  refine e_s rfl ?_
  refine e_s rfl ?_
  rw [show nI t + 3 = nI (t + 3) from nI_add t 3]
  refine e_ia rfl rfl rfl (show t + 3 < L by omega) (by omega) ?_
  rw [ro (t + 3)]
  refine e_c rfl r1 (by omega) ?_
  refine e_s rfl ?_
  refine e_s rfl ?_
  refine e_s rfl ?_
  refine e_s rfl ?_
  refine e_s rfl ?_
  rw [show nI t + 1 = nI (t + 1) from nI_add t 1]
  refine e_ia rfl rfl rfl (show t + 1 < L by omega) (by omega) ?_
  rw [ro1 (t + 1)]
  refine e_s rfl ?_
  refine e_s rfl ?_
  refine e_s rfl ?_
  refine e_s rfl ?_
  rw [show nI t + 2 = nI (t + 2) from nI_add t 2]
  refine e_ia rfl rfl rfl (show t + 2 < L by omega) (by omega) ?_
  rw [ro1 (t + 2)]
  refine e_s rfl ?_
  refine e_s rfl ?_
  refine e_s rfl ?_
  refine e_s rfl ?_
  rw [show nI t + 3 = nI (t + 3) from nI_add t 3]
  refine e_ia rfl rfl rfl (show t + 3 < L by omega) (by omega) ?_
  rw [ro1 (t + 3)]
  refine e_c rfl r2 (by omega) ?_
  refine e_s rfl ?_
  refine e_bt (Eq.refl v') ?_
  refine e_s rfl ?_
  refine e_s rfl ?_
  rw [show nI t + 6 = nI (t + 6) from nI_add t 6]
  exact fin
theorem sc_29 (h : StL xs L so dr ds I n) (ht : t + 6 ≤ L) (hL : L ≤ 3072) (hn : n + 3 < 1000000) (hj : xs t &&& 31 = nI 29) (IH : ∀ I2 J2 n' q' dr' ds', n' ≤ n + 3 → q' ≤ q + 324 → StL xs L so dr' ds' I2 n' → ∃ I' J' R' S' n2 q2, n2 ≤ 2000 ∧ q2 ≤ 200000 ∧ px_ev 800 0 18 [some (.ref 1000000), some (.ref 0), some (.ref 31), some (.int (nI (t + 6)))] [] I2 J2 (dR so dr') (dS L ds') n' q' (some (.int 1), I', J', R', S', n2, q2)) : ∃ I' J' R' S' n2 q2, n2 ≤ 2000 ∧ q2 ≤ 200000 ∧ px_ev 800 0 27 [some (.ref 1000000), some (.ref 0), some (.ref 31), some (.int (nI t))] [] I J (dR so dr) (dS L ds) n q (some (.int 1), I', J', R', S', n2, q2) := by
  have ro : ∀ j, I 1000000 j = xs j := by
    obtain ⟨cc, tc, rl, sg, tp, ca, kd, nb, ta, ua, wa, tz, h⟩ := h
    exact fun j => (h.2.2.2.2.2.2.2.1 1000000 j (by decide)).trans rfl
  obtain ⟨v', I1, J1, I2, J2, n', q', dr', ds', hn', hq', r1, r2, st'⟩ := k_copy (q := q) (J := J) (x := xs (t + 1)) (y := xs (t + 2)) (z := xs (t + 3)) (w := xs (t + 4)) (v := xs (t + 5)) h hn
  have ro1 : ∀ j, I1 1000000 j = xs j := fun j => (mt_ro r1 rfl j).trans (ro j)
  obtain ⟨I', J', R', S', n2, q2, b1, b2, fin⟩ := IH I2 J2 n' q' dr' ds' hn' hq' st'
  refine ⟨I', J', R', S', n2, q2, b1, b2, ?_⟩
  refine e_s rfl ?_
  refine e_s rfl ?_
  refine e_ia rfl rfl rfl (show t < L by omega) (by omega) ?_
  rw [ro t]
  refine e_s rfl ?_
  refine e_s rfl ?_
  rw [hj]
  refine e_s rfl ?_
  refine e_s rfl ?_
  refine e_s rfl ?_
  refine e_s rfl ?_
  refine e_s rfl ?_
  refine e_s rfl ?_
  rw [show nI t + 1 = nI (t + 1) from nI_add t 1]
  refine e_ia rfl rfl rfl (show t + 1 < L by omega) (by omega) ?_
  rw [ro (t + 1)]
  refine e_s rfl ?_
  refine e_s rfl ?_
  refine e_s rfl ?_
  refine e_s rfl ?_
  rw [show nI t + 2 = nI (t + 2) from nI_add t 2]
  refine e_ia rfl rfl rfl (show t + 2 < L by omega) (by omega) ?_
  rw [ro (t + 2)]
  refine e_s rfl ?_
  refine e_s rfl ?_
  refine e_s rfl ?_
  refine e_s rfl ?_
  rw [show nI t + 3 = nI (t + 3) from nI_add t 3]
  refine e_ia rfl rfl rfl (show t + 3 < L by omega) (by omega) ?_
  rw [ro (t + 3)]
  refine e_s rfl ?_
  refine e_s rfl ?_
  refine e_s rfl ?_
  refine e_s rfl ?_
  rw [show nI t + 4 = nI (t + 4) from nI_add t 4]
  refine e_ia rfl rfl rfl (show t + 4 < L by omega) (by omega) ?_
  rw [ro (t + 4)]
  refine e_s rfl ?_
  refine e_s rfl ?_
  refine e_s rfl ?_
  refine e_s rfl ?_
  rw [show nI t + 5 = nI (t + 5) from nI_add t 5]
  refine e_ia rfl rfl rfl (show t + 5 < L by omega) (by omega) ?_
  rw [ro (t + 5)]
  refine e_c rfl r1 (by omega) ?_
  refine e_s rfl ?_
  refine e_s rfl ?_
  refine e_s rfl ?_
  refine e_s rfl ?_
  refine e_s rfl ?_
  rw [show nI t + 1 = nI (t + 1) from nI_add t 1]
  refine e_ia rfl rfl rfl (show t + 1 < L by omega) (by omega) ?_
  rw [ro1 (t + 1)]
  refine e_s rfl ?_
  refine e_s rfl ?_
  refine e_s rfl ?_
  refine e_s rfl ?_
  rw [show nI t + 2 = nI (t + 2) from nI_add t 2]
  refine e_ia rfl rfl rfl (show t + 2 < L by omega) (by omega) ?_
  rw [ro1 (t + 2)]
  refine e_s rfl ?_
  refine e_s rfl ?_
  refine e_s rfl ?_
  refine e_s rfl ?_
  rw [show nI t + 3 = nI (t + 3) from nI_add t 3]
  refine e_ia rfl rfl rfl (show t + 3 < L by omega) (by omega) ?_
  rw [ro1 (t + 3)]
  refine e_s rfl ?_
  refine e_s rfl ?_
  refine e_s rfl ?_
  refine e_s rfl ?_
  rw [show nI t + 4 = nI (t + 4) from nI_add t 4]
  refine e_ia rfl rfl rfl (show t + 4 < L by omega) (by omega) ?_
  rw [ro1 (t + 4)]
  refine e_s rfl ?_
  refine e_s rfl ?_
  refine e_s rfl ?_
  refine e_s rfl ?_
  rw [show nI t + 5 = nI (t + 5) from nI_add t 5]
  refine e_ia rfl rfl rfl (show t + 5 < L by omega) (by omega) ?_
  rw [ro1 (t + 5)]
  refine e_c rfl r2 (by omega) ?_
  refine e_s rfl ?_
  refine e_bt (Eq.refl v') ?_
  refine e_s rfl ?_
  refine e_s rfl ?_
  rw [show nI t + 6 = nI (t + 6) from nI_add t 6]
  exact fin
theorem sc_30 (h : StL xs L so dr ds I n) (ht : t + 6 ≤ L) (hL : L ≤ 3072) (hn : n + 3 < 1000000) (hj : xs t &&& 31 = nI 30) (IH : ∀ I2 J2 n' q' dr' ds', n' ≤ n + 3 → q' ≤ q + 324 → StL xs L so dr' ds' I2 n' → ∃ I' J' R' S' n2 q2, n2 ≤ 2000 ∧ q2 ≤ 200000 ∧ px_ev 800 0 18 [some (.ref 1000000), some (.ref 0), some (.ref 31), some (.int (nI (t + 6)))] [] I2 J2 (dR so dr') (dS L ds') n' q' (some (.int 1), I', J', R', S', n2, q2)) : ∃ I' J' R' S' n2 q2, n2 ≤ 2000 ∧ q2 ≤ 200000 ∧ px_ev 800 0 27 [some (.ref 1000000), some (.ref 0), some (.ref 31), some (.int (nI t))] [] I J (dR so dr) (dS L ds) n q (some (.int 1), I', J', R', S', n2, q2) := by
  have ro : ∀ j, I 1000000 j = xs j := by
    obtain ⟨cc, tc, rl, sg, tp, ca, kd, nb, ta, ua, wa, tz, h⟩ := h
    exact fun j => (h.2.2.2.2.2.2.2.1 1000000 j (by decide)).trans rfl
  obtain ⟨v', I1, J1, I2, J2, n', q', dr', ds', hn', hq', r1, r2, st'⟩ := k_hears (q := q) (J := J) (x := xs (t + 1)) (y := xs (t + 2)) (w := xs (t + 3)) (v := xs (t + 4)) h hn
  have ro1 : ∀ j, I1 1000000 j = xs j := fun j => (mt_ro r1 rfl j).trans (ro j)
  obtain ⟨I', J', R', S', n2, q2, b1, b2, fin⟩ := IH I2 J2 n' q' dr' ds' hn' hq' st'
  refine ⟨I', J', R', S', n2, q2, b1, b2, ?_⟩
  refine e_s rfl ?_
  refine e_s rfl ?_
  refine e_ia rfl rfl rfl (show t < L by omega) (by omega) ?_
  rw [ro t]
  refine e_s rfl ?_
  refine e_s rfl ?_
  rw [hj]
  refine e_s rfl ?_
  refine e_s rfl ?_
  refine e_s rfl ?_
  refine e_s rfl ?_
  refine e_s rfl ?_
  refine e_s rfl ?_
  rw [show nI t + 1 = nI (t + 1) from nI_add t 1]
  refine e_ia rfl rfl rfl (show t + 1 < L by omega) (by omega) ?_
  rw [ro (t + 1)]
  refine e_s rfl ?_
  refine e_s rfl ?_
  refine e_s rfl ?_
  refine e_s rfl ?_
  rw [show nI t + 2 = nI (t + 2) from nI_add t 2]
  refine e_ia rfl rfl rfl (show t + 2 < L by omega) (by omega) ?_
  rw [ro (t + 2)]
  refine e_s rfl ?_
  refine e_s rfl ?_
  refine e_s rfl ?_
  refine e_s rfl ?_
  rw [show nI t + 3 = nI (t + 3) from nI_add t 3]
  refine e_ia rfl rfl rfl (show t + 3 < L by omega) (by omega) ?_
  rw [ro (t + 3)]
  refine e_s rfl ?_
  refine e_s rfl ?_
  refine e_s rfl ?_
  refine e_s rfl ?_
  rw [show nI t + 4 = nI (t + 4) from nI_add t 4]
  refine e_ia rfl rfl rfl (show t + 4 < L by omega) (by omega) ?_
  rw [ro (t + 4)]
  refine e_c rfl r1 (by omega) ?_
  refine e_s rfl ?_
  refine e_s rfl ?_
  refine e_s rfl ?_
  refine e_s rfl ?_
  refine e_s rfl ?_
  rw [show nI t + 1 = nI (t + 1) from nI_add t 1]
  refine e_ia rfl rfl rfl (show t + 1 < L by omega) (by omega) ?_
  rw [ro1 (t + 1)]
  refine e_s rfl ?_
  refine e_s rfl ?_
  refine e_s rfl ?_
  refine e_s rfl ?_
  rw [show nI t + 2 = nI (t + 2) from nI_add t 2]
  refine e_ia rfl rfl rfl (show t + 2 < L by omega) (by omega) ?_
  rw [ro1 (t + 2)]
  refine e_s rfl ?_
  refine e_s rfl ?_
  refine e_s rfl ?_
  refine e_s rfl ?_
  rw [show nI t + 3 = nI (t + 3) from nI_add t 3]
  refine e_ia rfl rfl rfl (show t + 3 < L by omega) (by omega) ?_
  rw [ro1 (t + 3)]
  refine e_s rfl ?_
  refine e_s rfl ?_
  refine e_s rfl ?_
  refine e_s rfl ?_
  rw [show nI t + 4 = nI (t + 4) from nI_add t 4]
  refine e_ia rfl rfl rfl (show t + 4 < L by omega) (by omega) ?_
  rw [ro1 (t + 4)]
  refine e_c rfl r2 (by omega) ?_
  refine e_s rfl ?_
  refine e_bt (Eq.refl v') ?_
  refine e_s rfl ?_
  refine e_s rfl ?_
  rw [show nI t + 6 = nI (t + 6) from nI_add t 6]
  exact fin
theorem sc_31 (h : StL xs L so dr ds I n) (ht : t + 6 ≤ L) (hL : L ≤ 3072) (hn : n + 3 < 1000000) (hj : xs t &&& 31 = nI 31) (IH : ∀ I2 J2 n' q' dr' ds', n' ≤ n + 3 → q' ≤ q + 324 → StL xs L so dr' ds' I2 n' → ∃ I' J' R' S' n2 q2, n2 ≤ 2000 ∧ q2 ≤ 200000 ∧ px_ev 800 0 18 [some (.ref 1000000), some (.ref 0), some (.ref 31), some (.int (nI (t + 6)))] [] I2 J2 (dR so dr') (dS L ds') n' q' (some (.int 1), I', J', R', S', n2, q2)) : ∃ I' J' R' S' n2 q2, n2 ≤ 2000 ∧ q2 ≤ 200000 ∧ px_ev 800 0 27 [some (.ref 1000000), some (.ref 0), some (.ref 31), some (.int (nI t))] [] I J (dR so dr) (dS L ds) n q (some (.int 1), I', J', R', S', n2, q2) := by
  have ro : ∀ j, I 1000000 j = xs j := by
    obtain ⟨cc, tc, rl, sg, tp, ca, kd, nb, ta, ua, wa, tz, h⟩ := h
    exact fun j => (h.2.2.2.2.2.2.2.1 1000000 j (by decide)).trans rfl
  obtain ⟨v', I1, J1, I2, J2, n', q', dr', ds', hn', hq', r1, r2, st'⟩ := k_taken (q := q) (J := J) (x := xs (t + 1)) (y := xs (t + 2)) h hn
  have ro1 : ∀ j, I1 1000000 j = xs j := fun j => (mt_ro r1 rfl j).trans (ro j)
  obtain ⟨I', J', R', S', n2, q2, b1, b2, fin⟩ := IH I2 J2 n' q' dr' ds' hn' hq' st'
  refine ⟨I', J', R', S', n2, q2, b1, b2, ?_⟩
  refine e_s rfl ?_
  refine e_s rfl ?_
  refine e_ia rfl rfl rfl (show t < L by omega) (by omega) ?_
  rw [ro t]
  refine e_s rfl ?_
  refine e_s rfl ?_
  rw [hj]
  refine e_s rfl ?_
  refine e_s rfl ?_
  refine e_s rfl ?_
  refine e_s rfl ?_
  refine e_s rfl ?_
  refine e_s rfl ?_
  rw [show nI t + 1 = nI (t + 1) from nI_add t 1]
  refine e_ia rfl rfl rfl (show t + 1 < L by omega) (by omega) ?_
  rw [ro (t + 1)]
  refine e_s rfl ?_
  refine e_s rfl ?_
  refine e_s rfl ?_
  refine e_s rfl ?_
  rw [show nI t + 2 = nI (t + 2) from nI_add t 2]
  refine e_ia rfl rfl rfl (show t + 2 < L by omega) (by omega) ?_
  rw [ro (t + 2)]
  refine e_c rfl r1 (by omega) ?_
  refine e_s rfl ?_
  refine e_s rfl ?_
  refine e_s rfl ?_
  refine e_s rfl ?_
  refine e_s rfl ?_
  rw [show nI t + 1 = nI (t + 1) from nI_add t 1]
  refine e_ia rfl rfl rfl (show t + 1 < L by omega) (by omega) ?_
  rw [ro1 (t + 1)]
  refine e_s rfl ?_
  refine e_s rfl ?_
  refine e_s rfl ?_
  refine e_s rfl ?_
  rw [show nI t + 2 = nI (t + 2) from nI_add t 2]
  refine e_ia rfl rfl rfl (show t + 2 < L by omega) (by omega) ?_
  rw [ro1 (t + 2)]
  refine e_c rfl r2 (by omega) ?_
  refine e_s rfl ?_
  refine e_bt (Eq.refl v') ?_
  refine e_s rfl ?_
  refine e_s rfl ?_
  rw [show nI t + 6 = nI (t + 6) from nI_add t 6]
  exact fin
theorem w_law (hL : L ≤ 3072) : ∀ k t (I : px_HI) (J : px_HJ) (n q : Nat) (dr : px_HR) (ds : px_HS), L < t + 6 * k + 6 → t ≤ 3072 → n + 3 * k ≤ 2000 → q + 324 * k ≤ 200000 → StL xs L so dr ds I n → ∃ I' J' R' S' n2 q2, n2 ≤ 2000 ∧ q2 ≤ 200000 ∧ px_ev 800 0 18 [some (.ref 1000000), some (.ref 0), some (.ref 31), some (.int (nI t))] [] I J (dR so dr) (dS L ds) n q (some (.int 1), I', J', R', S', n2, q2) := by
  have ex : ∀ t (I : px_HI) (J : px_HJ) (n q : Nat) (dr : px_HR) (ds : px_HS), L < t + 6 → t ≤ 3072 → n ≤ 2000 → q ≤ 200000 → ∃ I' J' R' S' n2 q2, n2 ≤ 2000 ∧ q2 ≤ 200000 ∧ px_ev 800 0 18 [some (.ref 1000000), some (.ref 0), some (.ref 31), some (.int (nI t))] [] I J (dR so dr) (dS L ds) n q (some (.int 1), I', J', R', S', n2, q2) := by
    intro t I J n q dr ds h1 h2 h3 h4
    refine ⟨I, J, dR so dr, dS L ds, n, q, h3, h4, ?_⟩
    refine e_s rfl ?_
    refine e_s rfl ?_
    refine e_s rfl ?_
    refine e_s rfl ?_
    refine e_s rfl ?_
    refine e_s rfl ?_
    refine e_bt (show nI L - nI 6 < nI t from ?_) ?_
    · rw [Int32.lt_iff_toInt_lt, pk_sub_toInt (by omega) (by omega), nI_toInt (by omega)]
      omega
    refine e_s rfl ?_
    exact e_r rfl
  intro k
  induction k with
  | zero =>
    intro t I J n q dr ds h1 h2 h3 h4 h5
    exact ex t I J n q dr ds (by omega) h2 (by omega) (by omega)
  | succ k ih =>
    intro t I J n q dr ds h1 h2 h3 h4 h5
    by_cases hl : L < t + 6
    · exact ex t I J n q dr ds hl h2 (by omega) (by omega)
    · have IH : ∀ I2 J2 n' q' dr' ds', n' ≤ n + 3 → q' ≤ q + 324 → StL xs L so dr' ds' I2 n' → ∃ I' J' R' S' n2 q2, n2 ≤ 2000 ∧ q2 ≤ 200000 ∧ px_ev 800 0 18 [some (.ref 1000000), some (.ref 0), some (.ref 31), some (.int (nI (t + 6)))] [] I2 J2 (dR so dr') (dS L ds') n' q' (some (.int 1), I', J', R', S', n2, q2) := fun I2 J2 n' q' dr' ds' e1 e2 e3 => ih (t + 6) I2 J2 n' q' dr' ds' (by omega) (by omega) (by omega) (by omega) e3
      have body : ∃ I' J' R' S' n2 q2, n2 ≤ 2000 ∧ q2 ≤ 200000 ∧ px_ev 800 0 27 [some (.ref 1000000), some (.ref 0), some (.ref 31), some (.int (nI t))] [] I J (dR so dr) (dS L ds) n q (some (.int 1), I', J', R', S', n2, q2) := by
        obtain ⟨j, hj, e⟩ := pk_andE (xs t) (m := 31) 5 (by decide)
        have hj' : j < 32 := hj
        match j, hj' with
        | 0, _ => exact sc_0 h5 (by omega) hL (by omega) e IH
        | 1, _ => exact sc_1 h5 (by omega) hL (by omega) e IH
        | 2, _ => exact sc_2 h5 (by omega) hL (by omega) e IH
        | 3, _ => exact sc_3 h5 (by omega) hL (by omega) e IH
        | 4, _ => exact sc_4 h5 (by omega) hL (by omega) e IH
        | 5, _ => exact sc_5 h5 (by omega) hL (by omega) e IH
        | 6, _ => exact sc_6 h5 (by omega) hL (by omega) e IH
        | 7, _ => exact sc_7 h5 (by omega) hL (by omega) e IH
        | 8, _ => exact sc_8 h5 (by omega) hL (by omega) e IH
        | 9, _ => exact sc_9 h5 (by omega) hL (by omega) e IH
        | 10, _ => exact sc_10 h5 (by omega) hL (by omega) e IH
        | 11, _ => exact sc_11 h5 (by omega) hL (by omega) e IH
        | 12, _ => exact sc_12 h5 (by omega) hL (by omega) e IH
        | 13, _ => exact sc_13 h5 (by omega) hL (by omega) e IH
        | 14, _ => exact sc_14 h5 (by omega) hL (by omega) e IH
        | 15, _ => exact sc_15 h5 (by omega) hL (by omega) e IH
        | 16, _ => exact sc_16 h5 (by omega) hL (by omega) e IH
        | 17, _ => exact sc_17 h5 (by omega) hL (by omega) e IH
        | 18, _ => exact sc_18 h5 (by omega) hL (by omega) e IH
        | 19, _ => exact sc_19 h5 (by omega) hL (by omega) e IH
        | 20, _ => exact sc_20 h5 (by omega) hL (by omega) e IH
        | 21, _ => exact sc_21 h5 (by omega) hL (by omega) e IH
        | 22, _ => exact sc_22 h5 (by omega) hL (by omega) e IH
        | 23, _ => exact sc_23 h5 (by omega) hL (by omega) e IH
        | 24, _ => exact sc_24 h5 (by omega) hL (by omega) e IH
        | 25, _ => exact sc_25 h5 (by omega) hL (by omega) e IH
        | 26, _ => exact sc_26 h5 (by omega) hL (by omega) e IH
        | 27, _ => exact sc_27 h5 (by omega) hL (by omega) e IH
        | 28, _ => exact sc_28 h5 (by omega) hL (by omega) e IH
        | 29, _ => exact sc_29 h5 (by omega) hL (by omega) e IH
        | 30, _ => exact sc_30 h5 (by omega) hL (by omega) e IH
        | 31, _ => exact sc_31 h5 (by omega) hL (by omega) e IH
        | j + 32, h => exact absurd h (by omega)
      obtain ⟨I', J', R', S', n2, q2, b1, b2, fin⟩ := body
      refine ⟨I', J', R', S', n2, q2, b1, b2, ?_⟩
      refine e_s rfl ?_
      refine e_s rfl ?_
      refine e_s rfl ?_
      refine e_s rfl ?_
      refine e_s rfl ?_
      refine e_s rfl ?_
      refine e_bf (show ¬ nI L - nI 6 < nI t from ?_) ?_
      · rw [Int32.lt_iff_toInt_lt, pk_sub_toInt (by omega) (by omega), nI_toInt (by omega)]
        omega
      exact fin
end PXLL
