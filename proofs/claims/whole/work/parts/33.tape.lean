/-! THE TAPE of the class: letters, words, numbers, marks, tokens -/
def tS (L : Nat) (s0 : px_HS) : px_HS := fun a => cond (Nat.ble 9 a && Nat.ble a 14) (SH a) (cond (Nat.ble 1000000 a) (px_S0 L a) (s0 a))
def tR (so : Option Nat) (r0 : px_HR) : px_HR := fun a k => cond (Nat.ble 9 a && Nat.ble a 14) (match RF a k with
  | some r => some r
  | none => r0 a k) (cond (Nat.ble 1000000 a) (px_R0 so a k) (r0 a k))
def isBl (x : Int32) : Bool := decide (x = 32 ∨ x = 10)
def isLt (x : Int32) : Bool := decide (97 ≤ x ∧ x ≤ 122)
def isDg (x : Int32) : Bool := decide (48 ≤ x ∧ x ≤ 57)
def bI (c : Bool) : Int32 := cond c 1 0
/-- the first place from i on, within so many, that p doesn't hold of -/
def skp (p : Int32 → Bool) (b : Nat → Int32) : Nat → Nat → Nat
  | 0, i => i
  | f + 1, i => cond (p (b i)) (skp p b f (i + 1)) i
theorem skp_le (p : Int32 → Bool) (b : Nat → Int32) : ∀ f i, i ≤ skp p b f i ∧ skp p b f i ≤ i + f
  | 0, i => ⟨Nat.le_refl _, Nat.le_refl _⟩
  | f + 1, i => by
    unfold skp
    cases p (b i)
    · exact ⟨Nat.le_refl _, by show i ≤ _; omega⟩
    · have := skp_le p b f (i + 1)
      exact ⟨by show i ≤ skp p b f (i + 1); omega, by show skp p b f (i + 1) ≤ _; omega⟩
def isl (b : Nat → Int32) : List Int32 → Nat → Bool
  | [], _ => true
  | x :: w, i => decide (b i = x) && isl b w (i + 1)
/-- the bytes from i to e are that word -/
def isw (w : List Int32) (b : Nat → Int32) (i e : Nat) : Bool := Nat.beq (e - i) w.length && isl b w i
def wcode (b : Nat → Int32) (i e : Nat) : Int32 :=
  cond (isw (px_by.getD 1 []) b i e) (-1) (cond (isw (px_by.getD 2 []) b i e) (-2) (cond (isw (px_by.getD 3 []) b i e) (-3) (cond (isw (px_by.getD 4 []) b i e) (-4) (cond (isw (px_by.getD 5 []) b i e) (-5) (cond (isw (px_by.getD 6 []) b i e) (-6)
  (cond (isw (px_by.getD 7 []) b i e) (-7) (cond (isw (px_by.getD 8 []) b i e) (-8) (cond (isw (px_by.getD 9 []) b i e) (-9) (cond (isw (px_by.getD 10 []) b i e) (-16) (cond (isw (px_by.getD 11 []) b i e) (-17) (cond (isw (px_by.getD 12 []) b i e) (-18) (-23))))))))))))
def nval (b : Nat → Int32) : Nat → Nat → Int32 → Int32
  | 0, _, v => v
  | f + 1, i, v => nval b f (i + 1) (v * 10 + (b i - 48))
def ncode (b : Nat → Int32) (i e : Nat) : Int32 := if 4 < e - i then -23 else nval b (e - i) i 0
def mcode (x : Int32) : Int32 := if x = 40 then -19 else if x = 41 then -20 else if x = 59 then -21 else if x = 43 then -12 else if x = 45 then -13 else if x = 42 then -14 else if x = 60 then -10 else if x = 61 then -11 else -23
section PXT1
variable {d n q L : Nat} {so : Option Nat} {I : px_HI} {J : px_HJ} {R r0 : px_HR} {S s0 : px_HS}
theorem bI_t {c : Prop} {ic : Decidable c} (h : c) : bI (decide c) = 1 := by rw [decide_eq_true h]; rfl
theorem bI_f {c : Prop} {ic : Decidable c} (h : ¬ c) : bI (decide c) = 0 := by rw [decide_eq_false h]; rfl
theorem r_blank (x : Int32) : px_mt (d + 1) 16 [.int x] I J R S n q (some (.int (bI (isBl x))), I, J, R, S, n, q) := by
  unfold px_mt isBl
  repeat refine e_s rfl ?_
  refine e_b (fun h => ?_) (fun h => ?_)
  · repeat refine e_s rfl ?_
    rw [bI_t (Or.inl h)]
    exact e_r rfl
  · repeat refine e_s rfl ?_
    refine e_b (fun h2 => ?_) (fun h2 => ?_)
    · repeat refine e_s rfl ?_
      rw [bI_f (fun z => z.elim h h2)]
      exact e_r rfl
    · repeat refine e_s rfl ?_
      rw [bI_t (Or.inr (Classical.not_not.mp h2))]
      exact e_r rfl
theorem r_letter (x : Int32) : px_mt (d + 1) 18 [.int x] I J R S n q (some (.int (bI (isLt x))), I, J, R, S, n, q) := by
  unfold px_mt isLt
  repeat refine e_s rfl ?_
  refine e_b (fun h => ?_) (fun h => ?_)
  · repeat refine e_s rfl ?_
    rw [bI_f (fun z => absurd h (Int32.not_lt.mpr z.1))]
    exact e_r rfl
  · repeat refine e_s rfl ?_
    refine e_b (fun h2 => ?_) (fun h2 => ?_)
    · repeat refine e_s rfl ?_
      rw [bI_f (fun z => absurd h2 (Int32.not_lt.mpr z.2))]
      exact e_r rfl
    · repeat refine e_s rfl ?_
      rw [bI_t ⟨Int32.not_lt.mp h, Int32.not_lt.mp h2⟩]
      exact e_r rfl
theorem r_digit (x : Int32) : px_mt (d + 1) 23 [.int x] I J R S n q (some (.int (bI (isDg x))), I, J, R, S, n, q) := by
  unfold px_mt isDg
  repeat refine e_s rfl ?_
  refine e_b (fun h => ?_) (fun h => ?_)
  · repeat refine e_s rfl ?_
    rw [bI_f (fun z => absurd h (Int32.not_lt.mpr z.1))]
    exact e_r rfl
  · repeat refine e_s rfl ?_
    refine e_b (fun h2 => ?_) (fun h2 => ?_)
    · repeat refine e_s rfl ?_
      rw [bI_f (fun z => absurd h2 (Int32.not_lt.mpr z.2))]
      exact e_r rfl
    · repeat refine e_s rfl ?_
      rw [bI_t ⟨Int32.not_lt.mp h, Int32.not_lt.mp h2⟩]
      exact e_r rfl
/-- a branch on a truth value -/
theorem e_z {m a b : Nat} {pl : px_L} {st : List Value} {r : Option Value × px_G} {c : Bool} (kt : c = true → px_ev d m b pl st I J R S n q r) (kf : c = false → px_ev d m a pl st I J R S n q r) : px_ev d m (cond (px_c 0 (bI c) 0) a b) pl st I J R S n q r := by
  cases c
  · exact kf rfl
  · exact kt rfl
theorem e_nz {m a b : Nat} {pl : px_L} {st : List Value} {r : Option Value × px_G} {c : Bool} (kt : c = true → px_ev d m a pl st I J R S n q r) (kf : c = false → px_ev d m b pl st I J R S n q r) : px_ev d m (cond (px_c 1 (bI c) 0) a b) pl st I J R S n q r := by
  cases c
  · exact kf rfl
  · exact kt rfl
theorem w_word {z : Nat} {x1 : Int32} (hz : I 10 1 = nI z) (h160 : z ≤ 160) : ∀ f i, i + f = z → px_ev (d + 2) 19 2 [some (.ref 10), some (.int x1), some (.int (nI i))] [] I J (tR so r0) (tS L s0) n q (some (.int (nI (skp isLt (I 11) f i))), I, J, tR so r0, tS L s0, n, q)
  | 0, i, hi => by
    repeat refine e_s rfl ?_
    rw [hz]
    refine e_bt (nI_le (by omega) (by omega)) ?_
    repeat refine e_s rfl ?_
    rw [hz, show z = i by omega]
    exact e_r rfl
  | f + 1, i, hi => by
    repeat refine e_s rfl ?_
    rw [hz]
    refine e_bf (nI_ge (by omega) (by omega)) ?_
    repeat refine e_s rfl ?_
    refine e_ia rfl rfl rfl (show i < 160 by omega) (by decide) ?_
    refine e_c rfl (r_letter (d := d) _) (by omega) ?_
    refine e_s rfl ?_
    unfold skp
    refine e_nz (fun h => ?_) (fun h => ?_)
    · rw [h]
      refine e_s rfl ?_
      refine e_s rfl ?_
      rw [show nI i + 1 = nI (i + 1) from nI_1 i]
      exact w_word hz h160 f (i + 1) (by omega)
    · rw [h]
      repeat refine e_s rfl ?_
      exact e_r rfl
end PXT1
