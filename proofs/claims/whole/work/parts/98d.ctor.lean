/-! the constructor of the class, up to its first rule -/
section PXC1
variable {d n q L c : Nat} {so : Option Nat} {R : px_HR} {S : px_HS} {I : px_HI} {J : px_HJ} {xs : Nat → Int32}
theorem i_2 (hS : S c = (17, 8)) (hc : c ≠ n) (hn : n < 1000000) : px_mt (d + 1) 2 [.ref c] I J R S n q (none, px_z (px_u (px_u (px_u (px_u (px_u (px_u (px_u I c 0 9) c 1 0) c 2 1) c 3 0) c 4 0) c 5 0) c 6 0) n 0, px_z J n 0, px_u (px_z R n none) c 7 (some n), px_us S n (100, 6), n + 1, q + 6) := by
  unfold px_mt
  refine e_s rfl ?_
  refine e_s rfl ?_
  iterate 7
    refine e_s rfl ?_
    refine e_s rfl ?_
    refine e_pi rfl hS rfl rfl ?_
  refine e_s rfl ?_
  refine e_s rfl ?_
  refine e_na (x := 6) rfl (by decide) hn ?_
  refine e_pr rfl ((us_ne hc).trans hS) rfl ?_
  exact e_r rfl
theorem i_5 (hS : S c = (18, 3)) (hc : c ≠ n) (hn : n < 1000000) : px_mt (d + 1) 5 [.ref c] I J R S n q (none, px_u (px_u (px_z I n 0) c 1 (-1)) c 2 0, px_z J n 0, px_u (px_z R n none) c 0 (some n), px_us S n (100, 40), n + 1, q + 40) := by
  unfold px_mt
  refine e_s rfl ?_
  refine e_s rfl ?_
  refine e_s rfl ?_
  refine e_s rfl ?_
  refine e_na (x := 40) rfl (by decide) hn ?_
  have hS' := (us_ne (v := (100, 40)) hc).trans hS
  refine e_pr rfl hS' rfl ?_
  iterate 2
    refine e_s rfl ?_
    refine e_s rfl ?_
    refine e_pi rfl hS' rfl rfl ?_
  exact e_r rfl
theorem i_4 (hS : S c = (19, 5)) (hc : c < n) (hn : n + 2 < 1000000) : px_mt (d + 1) 4 [.ref c] I J R S n q (none, px_u (px_z (px_z (px_u (px_z I n 0) c 1 0) (n + 1) 0) (n + 2) 0) c 4 0, px_z (px_z (px_z J n 0) (n + 1) 0) (n + 2) 0, px_u (px_z (px_u (px_z (px_u (px_z R n none) c 0 (some n)) (n + 1) none) c 2 (some (n + 1))) (n + 2) none) c 3 (some (n + 2)), px_us (px_us (px_us S n (100, 160)) (n + 1) (100, 161)) (n + 2) (100, 161), n + 3, q + 160 + 161 + 161) := by
  unfold px_mt
  refine e_s rfl ?_
  refine e_s rfl ?_
  refine e_s rfl ?_
  refine e_s rfl ?_
  refine e_na (x := 160) rfl (by decide) (by omega) ?_
  have h1 := (us_ne (f := S) (a := n) (v := (100, 160)) (show c ≠ n by omega)).trans hS
  refine e_pr rfl h1 rfl ?_
  refine e_s rfl ?_
  refine e_s rfl ?_
  refine e_pi rfl h1 rfl rfl ?_
  refine e_s rfl ?_
  refine e_s rfl ?_
  refine e_na (x := 161) rfl (by decide) (by omega) ?_
  have h2 := (us_ne (f := px_us S n (100, 160)) (a := n + 1) (v := (100, 161)) (show c ≠ n + 1 by omega)).trans h1
  refine e_pr rfl h2 rfl ?_
  refine e_s rfl ?_
  refine e_s rfl ?_
  refine e_na (x := 161) rfl (by decide) (by omega) ?_
  have h3 := (us_ne (f := px_us (px_us S n (100, 160)) (n + 1) (100, 161)) (a := n + 2) (v := (100, 161)) (show c ≠ n + 2 by omega)).trans h2
  refine e_pr rfl h3 rfl ?_
  refine e_s rfl ?_
  refine e_s rfl ?_
  refine e_pi rfl h3 rfl rfl ?_
  exact e_r rfl
end PXC1
