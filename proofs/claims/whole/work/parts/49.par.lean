/-! THE MODEL: its reader, level by level: the frame of the induction (printed by wip/whole/gen49.py) -/
def mm (m dep : Nat) : Nat := ([[162,199,194,189,184,179],[163,200,195,190,185,180],[164,166,167,168,169,170],[196,191,186,181,176,171],[197,192,187,182,177,172],[198,193,188,183,178,173]].getD m []).getD dep 0
def mlc (l : Nat) (y : Int32) (x2 x3 : Option Value) : px_L := match l with
  | 0 => [some (.ref 31), some (.int y), x2]
  | 1 => [some (.ref 31), some (.int y), x2]
  | 4 => [some (.ref 31), some (.int y)]
  | _ => [some (.ref 31), some (.int y), x2, x3]
def mpc (l dep : Nat) : Nat := if l = 2 then (if dep = 5 then 30 else 57) else 5
def mLv (b : Nat → Int32) (z L : Nat) (so : Option Nat) (dr : px_HR) (ds : px_HS) (f : Nat) : Prop := ∀ (m dep p : Nat) (acc : List Int32) (v : pE → Int32) (e : pE) (I : px_HI) (J : px_HJ) (n q D fr : Nat), m ≤ 5 → dep ≤ 5 → 20 * (z - p) + 12 - m ≤ f → 6 * (6 - dep) + (5 - m) + 5 ≤ D → mI I J b z fr dep p e → ∃ I' J' x, px_mt D (mm m dep) [.ref 31] I J (dR so dr) (dS L ds) n q (some (.int x), I', J', dR so dr, dS L ds, n, q) ∧ mFr I I' J J' ∧ mRs I' J' b z fr dep e x (PP b z f m dep p acc v)
def mCh (b : Nat → Int32) (z L : Nat) (so : Option Nat) (dr : px_HR) (ds : px_HS) (f : Nat) : Prop := ∀ (l dep p : Nat) (acc : List Int32) (v : pE → Int32) (e : pE) (y : Int32) (x2 x3 : Option Value) (I : px_HI) (J : px_HJ) (n q D fr : Nat), l ≤ 4 → dep ≤ 5 → 20 * (z - p) + 1 ≤ f → 6 * (6 - dep) + (5 - l) + 5 ≤ D → mI I J b z fr dep p e → y = v e → ∃ I' J' x, px_ev D (mm l dep) (mpc l dep) (mlc l y x2 x3) [] I J (dR so dr) (dS L ds) n q (some (.int x), I', J', dR so dr, dS L ds, n, q) ∧ mFr I I' J J' ∧ mRs I' J' b z fr dep e x (PP b z f (l + 10) dep p acc v)
theorem mc_lo {x : Int32} (h : ¬ mcode x = -23) : ¬ -6 ≤ mcode x := by
  have g := (mci_m h).1
  intro c
  unfold mcode at h c
  by_cases h1 : x = 40
  · subst h1; exact absurd c (by decide)
  by_cases h2 : x = 41
  · subst h2; exact absurd c (by decide)
  by_cases h3 : x = 59
  · subst h3; exact absurd c (by decide)
  by_cases h4 : x = 43
  · subst h4; exact absurd c (by decide)
  by_cases h5 : x = 45
  · subst h5; exact absurd c (by decide)
  by_cases h6 : x = 42
  · subst h6; exact absurd c (by decide)
  by_cases h7 : x = 60
  · subst h7; exact absurd c (by decide)
  by_cases h8 : x = 61
  · subst h8; exact absurd c (by decide)
  rw [if_neg h1, if_neg h2, if_neg h3, if_neg h4, if_neg h5, if_neg h6, if_neg h7, if_neg h8] at h
  exact absurd rfl h
theorem wcd_16 : ∀ k, k < 7 → 1 ≤ k → wcd k ≤ -1 ∧ -6 ≤ wcd k := by decide +kernel
