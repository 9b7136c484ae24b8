/-! the weight of a caller in a scene -/
def wFd (kd : Nat) (nb : Int32) (hrd : Nat → Int32) : Nat → Nat → Int64 → Int64
  | 0, _, w => w
  | k + 1, i, w => wFd kd nb hrd k (i + 1) (w * (snd kd nb (hrd i) (nI i)).toInt64)
theorem wFd_0 {kd : Nat} {nb : Int32} {hrd : Nat → Int32} : ∀ k i, wFd kd nb hrd k i 0 = 0
  | 0, _ => rfl
  | k + 1, i => by
    show wFd kd nb hrd k (i + 1) (0 * _) = 0
    rw [Int64.zero_mul]
    exact wFd_0 k (i + 1)
def wSp (kd : Nat) (nb : Int32) (hrd : Nat → Int32) (sg : Nat) (st : Bool) (cm : Int32) : Int64 := wFd kd nb hrd sg 0 ((bI st).toInt64 * cm.toInt64)
theorem snd_nn {kd nb i : Nat} {g : Int32} (hn : nb ≤ 9) (hi : i ≤ 6) : 0 ≤ snd kd (nI nb) g (nI i) := by
  have hp : pst g = nI 9 ∨ pst g = nI 1 := by unfold pst; split; exact Or.inl rfl; exact Or.inr rfl
  have hq : qut g = nI 12 ∨ qut g = nI 2 := by unfold qut; split; exact Or.inl rfl; exact Or.inr rfl
  have hp0 : 0 ≤ pst g := by rcases hp with h | h <;> rw [h] <;> decide
  have hq0 : 0 ≤ qut g := by rcases hq with h | h <;> rw [h] <;> decide
  unfold snd
  split
  · decide
  · exact hp0
  · exact hq0
  · split
    · rcases hp with h | h <;> rw [h, nI_add] <;> exact nI_pos' (by omega)
    · exact hp0
  · split
    · decide
    · exact hq0
  · split
    · rcases hp with h | h <;> rw [h, nI_add] <;> exact nI_pos' (by omega)
    · exact hp0
section PXW1
variable {d D n q L sc hs sg c : Nat} {so : Option Nat} {I I0 : px_HI} {J : px_HJ} {R dr : px_HR} {S ds : px_HS} {who x y : Int32} {kd nb : Nat}
theorem r_signAt {i : Nat} (hS : S sc = (17, 8)) (hg : I sc 6 = nI sg) (hR : R sc 7 = some hs) (hH : S hs = (100, 6)) (hi : i < sg) (h6 : sg ≤ 6) : px_mt (d + 1) 93 [.ref sc, .int (nI i)] I J R S n q (some (.int (I hs i)), I, J, R, S, n, q) := by
  unfold px_mt
  repeat refine e_s rfl ?_
  refine e_bf (nI_pos (by omega)) ?_
  repeat refine e_s rfl ?_
  refine e_gi rfl hS rfl ?_
  rw [hg]
  refine e_s rfl ?_
  refine e_bf (nI_ge hi (by omega)) ?_
  refine e_s rfl ?_
  refine e_gr rfl hS rfl hR ?_
  refine e_s rfl ?_
  refine e_ia rfl hH rfl (show i < 6 by omega) (by decide) ?_
  refine e_s rfl ?_
  exact e_r rfl
theorem w_wgt (hS : S sc = (17, 8)) (hg : I sc 6 = nI sg) (hR : R sc 7 = some hs) (hH : S hs = (100, 6)) (h6 : sg ≤ 6) (hk : kd ≤ 5) (hC : S c = (cls kd, 2)) (hN : I c 1 = nI nb) (hnb : nb ≤ 9) : ∀ k i (w : Int64), i + k = sg → px_ev (d + 5) 84 23 [some (.ref 0), some (.ref sc), some (.ref c), some (.int who), some (.long w), none, some (.int (nI i))] [] I J R S n q (some (.long (wFd kd (nI nb) (I hs) k i w)), I, J, R, S, n, q)
  | 0, i, w, hi => by
    refine e_s rfl ?_
    refine e_s rfl ?_
    refine e_gi rfl hS rfl ?_
    rw [hg]
    refine e_s rfl ?_
    refine e_bt (nI_le (by omega) (by omega)) ?_
    refine e_s rfl ?_
    exact e_r rfl
  | k + 1, i, w, hi => by
    refine e_s rfl ?_
    refine e_s rfl ?_
    refine e_gi rfl hS rfl ?_
    rw [hg]
    refine e_s rfl ?_
    refine e_bf (nI_ge (by omega) (by omega)) ?_
    refine e_s rfl ?_
    refine e_s rfl ?_
    refine e_s rfl ?_
    refine e_s rfl ?_
    refine e_cv rfl rfl rfl hS rfl rfl (r_signAt (d := d) hS hg hR hH (show i < sg by omega) h6) (by omega) ?_
    refine e_s rfl ?_
    have hsn := r_snd (d := d) (n := n) (q := q) (I := I) (J := J) (R := R) (S := S) (c := c) (kd := kd) (g := I hs i) (i := nI i) hk hC (by rw [hN]; exact snd_nn hnb (by omega))
    rw [hN] at hsn
    refine e_c rfl hsn (by omega) ?_
    refine e_s rfl ?_
    refine e_s rfl ?_
    refine e_s rfl ?_
    refine e_s rfl ?_
    refine e_s rfl ?_
    rw [nI_1]
    exact w_wgt hS hg hR hH h6 hk hC hN hnb k (i + 1) _ (by omega)
end PXW1
section PXW2
variable {d D n q L sc hs sg c rl tc : Nat} {so : Option Nat} {I : px_HI} {J : px_HJ} {dr : px_HR} {ds : px_HS} {who x y : Int32} {kd nb : Nat} {ta ua wa tz : Nat → Nat}
theorem r_weight (hT : tIv I (dR so dr) (dS L ds) tc ta ua wa tz) (hS : dS L ds sc = (17, 8)) (hr : I sc 5 = nI rl) (hrl : rl < tc) (hsc : sc < 10) (hg : I sc 6 = nI sg) (hR : dR so dr sc 7 = some hs) (hH : dS L ds hs = (100, 6)) (hhs : hs < 10) (h6 : sg ≤ 6) (hk : kd ≤ 5) (hC : dS L ds c = (cls kd, 2)) (hK : I c 0 = nI kd) (hN : I c 1 = nI nb) (hnb : nb ≤ 9) : ∃ I', px_mt (d + 6) 84 [.ref 0, .ref sc, .ref c, .int who] I J (dR so dr) (dS L ds) n q (some (.long (wSp kd (nI nb) (I hs) sg (sty kd (I sc 3) (I sc 4)) (clp 0 999 (tV I tz rl 0 (nmE (I sc 0) (I sc 1) (nI kd) (I sc 2) (nI sg) who))))), I', J, dR so dr, dS L ds, n, q) ∧ ∀ a j, a ≠ wa rl → I' a j = I a j := by
  have hwa : (wa rl = 30 ∨ 49 ≤ wa rl) ∧ dS L ds (wa rl) = (100, (rd3 (fun j => I 32 (160 * rl + j)) (tz rl)).2.2.1.length) := by
    have g := hT.2.2.2.2 rl hrl
    exact ⟨g.2.2.2.2.2.1, g.2.1.2.2.2.2.1⟩
  have hcw : c ≠ wa rl := by
    intro e
    rw [e, hwa.2] at hC
    have := (Prod.mk.inj hC).1
    revert this
    unfold cls
    split <;> decide
  unfold wSp
  cases hst : sty kd (I sc 3) (I sc 4) with
  | false =>
    refine ⟨I, ?_, fun _ _ _ => rfl⟩
    unfold px_mt
    refine e_s rfl ?_
    refine e_s rfl ?_
    refine e_c rfl (r_sty (d := d) hk hC hS) (by omega) ?_
    rw [hst]
    repeat refine e_s rfl ?_
    rw [show (bI false).toInt64 = 0 by decide, Int64.zero_mul, wFd_0]
    exact e_r rfl
  | true =>
    obtain ⟨I', hr1, hf1⟩ := r_comes (d := d) (n := n) (q := q) (J := J) (who := who) hT hS hr hrl hsc hk hC
    rw [hK, hg] at hr1
    refine ⟨I', ?_, hf1⟩
    have hh : I' hs = I hs := funext (fun j => hf1 hs j (by omega))
    have h2 := w_wgt (d := d + 1) (n := n) (q := q) (J := J) (who := who) (I := I') (R := dR so dr) (S := dS L ds) hS (show I' sc 6 = nI sg by rw [hf1 sc 6 (by omega)]; exact hg) hR hH h6 hk hC (show I' c 1 = nI nb by rw [hf1 c 1 hcw]; exact hN) hnb sg 0 (clp 0 999 (tV I tz rl 0 (nmE (I sc 0) (I sc 1) (nI kd) (I sc 2) (nI sg) who))).toInt64 (by omega)
    rw [hh] at h2
    unfold px_mt
    refine e_s rfl ?_
    refine e_s rfl ?_
    refine e_c rfl (r_sty (d := d) hk hC hS) (by omega) ?_
    rw [hst]
    repeat refine e_s rfl ?_
    refine e_c rfl hr1 (by omega) ?_
    refine e_s rfl ?_
    refine e_s rfl ?_
    refine e_s rfl ?_
    refine e_s rfl ?_
    rw [show (bI true).toInt64 = 1 by decide, Int64.one_mul]
    exact h2
end PXW2
