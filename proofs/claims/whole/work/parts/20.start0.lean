/-! the start of the law: the pure heap as it is then, and the real one beside it (printed by wip/whole/gen20.py) -/
def px_by : List (List Int32) := [[99, 111, 109, 101, 115, 32, 49, 48, 32, 43, 32, 104, 111, 117, 114, 32, 59, 32, 119, 111, 114, 116, 104, 32, 53, 32, 45, 32, 115, 111, 114, 116, 32, 42, 32, 50, 32, 59, 32, 99, 111, 115, 116, 115, 32, 49, 32, 59], [104, 111, 117, 114], [100, 97, 121], [115, 111, 114, 116], [104, 111, 109, 101], [115, 105, 103, 110, 115], [119, 104, 111], [111, 114], [97, 110, 100], [110, 111, 116], [99, 111, 109, 101, 115], [119, 111, 114, 116, 104], [99, 111, 115, 116, 115]]
def px_ln : List Nat := [48, 4, 3, 4, 4, 5, 3, 2, 3, 3, 5, 5, 5]
def px_hb (k : Nat) : Int32 := match k with
  | 0 => 24
  | 1 => 7
  | _ => 2
def px_I0 (xs : Nat → Int32) : px_HI := fun a k => cond (Nat.beq a 1000000) (xs k) (cond (Nat.beq a 1000001) (px_hb k) (cond (Nat.ble 1000040 a && Nat.ble a 1000052) ((px_by.getD (a - 1000040) []).getD k 0) 0))
def px_R0 (so : Option Nat) : px_HR := fun a _ => cond (Nat.beq a 1000002) so (cond (Nat.ble 1000010 a && Nat.ble a 1000022) (some (a + 30)) none)
def px_S0 (L : Nat) : px_HS := fun a => cond (Nat.beq a 1000000) (200, L) (cond (Nat.beq a 1000001) (200, 5) (cond (Nat.ble 1000010 a && Nat.ble a 1000022) (150, 0) (cond (Nat.ble 1000040 a && Nat.ble a 1000052) (203, px_ln.getD (a - 1000040) 0) (0, 0))))
def px_J0 : px_HJ := fun _ _ => 0
def px_tm (i : Nat) : Term := match px_se[i]? with
  | some e => .string e.2.2.1 e.2.1
  | none => .string "" 0
def px_nar : List Jvm.Cond := flatC (Jvm.Cond.and given_1 narrow_1)
set_option maxRecDepth 100000 in
theorem px_n1 : (List.range 13).all (fun i => decide (Cond.exactly (px_tm i) "java/lang/String" ∈ px_nar) && decide (Cond.eq (.field (px_tm i) "java/lang/String" "coder" "B") (.int 0) ∈ px_nar) && decide (Cond.arrayOf (.field (px_tm i) "java/lang/String" "value" "[B") .byte ∈ px_nar) && decide (Cond.eq (.length (.field (px_tm i) "java/lang/String" "value" "[B")) (.int (Int32.ofNat (px_ln.getD i 0))) ∈ px_nar)) = true := by decide +kernel
set_option maxRecDepth 100000 in
theorem px_n2 : (List.range 13).all (fun i => (List.range (px_ln.getD i 0)).all (fun j => decide (Cond.eq (.elem (.field (px_tm i) "java/lang/String" "value" "[B") (.int (Int32.ofNat j))) (.int ((px_by.getD i []).getD j 0)) ∈ px_nar))) = true := by decide +kernel
set_option maxRecDepth 100000 in
theorem px_n3_0 : (List.range 12).all (fun j => decide (Cond.not (Cond.eq (px_tm 0) (px_tm (1 + j))) ∈ px_nar)) = true := by decide +kernel
set_option maxRecDepth 100000 in
theorem px_n3_1 : (List.range 11).all (fun j => decide (Cond.not (Cond.eq (px_tm 1) (px_tm (2 + j))) ∈ px_nar)) = true := by decide +kernel
set_option maxRecDepth 100000 in
theorem px_n3_2 : (List.range 10).all (fun j => decide (Cond.not (Cond.eq (px_tm 2) (px_tm (3 + j))) ∈ px_nar)) = true := by decide +kernel
set_option maxRecDepth 100000 in
theorem px_n3_3 : (List.range 9).all (fun j => decide (Cond.not (Cond.eq (px_tm 3) (px_tm (4 + j))) ∈ px_nar)) = true := by decide +kernel
set_option maxRecDepth 100000 in
theorem px_n3_4 : (List.range 8).all (fun j => decide (Cond.not (Cond.eq (px_tm 4) (px_tm (5 + j))) ∈ px_nar)) = true := by decide +kernel
set_option maxRecDepth 100000 in
theorem px_n3_5 : (List.range 7).all (fun j => decide (Cond.not (Cond.eq (px_tm 5) (px_tm (6 + j))) ∈ px_nar)) = true := by decide +kernel
set_option maxRecDepth 100000 in
theorem px_n3_6 : (List.range 6).all (fun j => decide (Cond.not (Cond.eq (px_tm 6) (px_tm (7 + j))) ∈ px_nar)) = true := by decide +kernel
set_option maxRecDepth 100000 in
theorem px_n3_7 : (List.range 5).all (fun j => decide (Cond.not (Cond.eq (px_tm 7) (px_tm (8 + j))) ∈ px_nar)) = true := by decide +kernel
set_option maxRecDepth 100000 in
theorem px_n3_8 : (List.range 4).all (fun j => decide (Cond.not (Cond.eq (px_tm 8) (px_tm (9 + j))) ∈ px_nar)) = true := by decide +kernel
set_option maxRecDepth 100000 in
theorem px_n3_9 : (List.range 3).all (fun j => decide (Cond.not (Cond.eq (px_tm 9) (px_tm (10 + j))) ∈ px_nar)) = true := by decide +kernel
set_option maxRecDepth 100000 in
theorem px_n3_10 : (List.range 2).all (fun j => decide (Cond.not (Cond.eq (px_tm 10) (px_tm (11 + j))) ∈ px_nar)) = true := by decide +kernel
set_option maxRecDepth 100000 in
theorem px_n3_11 : (List.range 1).all (fun j => decide (Cond.not (Cond.eq (px_tm 11) (px_tm (12 + j))) ∈ px_nar)) = true := by decide +kernel
theorem px_n3 (i j : Nat) (h : i < j) (hj : j < 13) : Cond.not (Cond.eq (px_tm i) (px_tm j)) ∈ px_nar := by
  match i, h with
  | 0, h => have := of_decide_eq_true (List.all_eq_true.mp px_n3_0 (j - 1) (List.mem_range.mpr (by omega))); rw [show 1 + (j - 1) = j by omega] at this; exact this
  | 1, h => have := of_decide_eq_true (List.all_eq_true.mp px_n3_1 (j - 2) (List.mem_range.mpr (by omega))); rw [show 2 + (j - 2) = j by omega] at this; exact this
  | 2, h => have := of_decide_eq_true (List.all_eq_true.mp px_n3_2 (j - 3) (List.mem_range.mpr (by omega))); rw [show 3 + (j - 3) = j by omega] at this; exact this
  | 3, h => have := of_decide_eq_true (List.all_eq_true.mp px_n3_3 (j - 4) (List.mem_range.mpr (by omega))); rw [show 4 + (j - 4) = j by omega] at this; exact this
  | 4, h => have := of_decide_eq_true (List.all_eq_true.mp px_n3_4 (j - 5) (List.mem_range.mpr (by omega))); rw [show 5 + (j - 5) = j by omega] at this; exact this
  | 5, h => have := of_decide_eq_true (List.all_eq_true.mp px_n3_5 (j - 6) (List.mem_range.mpr (by omega))); rw [show 6 + (j - 6) = j by omega] at this; exact this
  | 6, h => have := of_decide_eq_true (List.all_eq_true.mp px_n3_6 (j - 7) (List.mem_range.mpr (by omega))); rw [show 7 + (j - 7) = j by omega] at this; exact this
  | 7, h => have := of_decide_eq_true (List.all_eq_true.mp px_n3_7 (j - 8) (List.mem_range.mpr (by omega))); rw [show 8 + (j - 8) = j by omega] at this; exact this
  | 8, h => have := of_decide_eq_true (List.all_eq_true.mp px_n3_8 (j - 9) (List.mem_range.mpr (by omega))); rw [show 9 + (j - 9) = j by omega] at this; exact this
  | 9, h => have := of_decide_eq_true (List.all_eq_true.mp px_n3_9 (j - 10) (List.mem_range.mpr (by omega))); rw [show 10 + (j - 10) = j by omega] at this; exact this
  | 10, h => have := of_decide_eq_true (List.all_eq_true.mp px_n3_10 (j - 11) (List.mem_range.mpr (by omega))); rw [show 11 + (j - 11) = j by omega] at this; exact this
  | 11, h => have := of_decide_eq_true (List.all_eq_true.mp px_n3_11 (j - 12) (List.mem_range.mpr (by omega))); rw [show 12 + (j - 12) = j by omega] at this; exact this
  | i + 12, h => omega
theorem px_n4 : px_ncast.all (fun q => decide (Cond.not (.castable q.1 q.2) ∈ px_nar)) = true := by decide +kernel
theorem px_n5 : Cond.eq (.static "java/lang/String" "COMPACT_STRINGS" "Z") (.int 1) ∈ px_nar ∧ Cond.isRef (.static "jdk/internal/util/Preconditions" "SIOOBE_FORMATTER" "Ljava/util/function/BiFunction;") ∈ px_nar ∧ Cond.arrayOf (.static "AtTheDoor" "HOUSE_BOUNDS" "[I") .int ∈ px_nar ∧ Cond.eq (.length (.static "AtTheDoor" "HOUSE_BOUNDS" "[I")) (.int 5) ∈ px_nar := by decide +kernel
theorem px_n6 : (List.range 5).all (fun j => decide (Cond.eq (.elem (.static "AtTheDoor" "HOUSE_BOUNDS" "[I") (.int (Int32.ofNat j))) (.int (px_hb j)) ∈ px_nar)) = true := by decide +kernel
theorem px_n7 : (List.range 13).all (fun ci => match px_cl[ci]? with
  | some r => decide (Cond.instantiable r.1 r.2.2 ∈ lw_tbl)
  | none => true) = true := by decide +kernel
theorem px_n8 : px_nest.all (fun q => decide (Cond.methodLinkNest q.1 q.2.1 q.2.2.1 q.2.2.2 ∈ lw_tbl)) = true := by decide +kernel
theorem px_n9 : px_cast.all (fun q => decide (Cond.castable q.1 q.2 ∈ lw_tbl)) = true := by decide +kernel
theorem px_n10 : Cond.arrayOver (.object "AtTheDoor$Caller") ∈ lw_tbl ∧ Cond.arrayOver (.object "AtTheDoor$Text") ∈ lw_tbl ∧ Cond.arrayOver (.object "AtTheDoor$Sheet") ∈ lw_tbl := by decide +kernel
theorem px_n11 : px_se.all (fun e => decide (Cond.stringRef e.2.2.1 e.2.1 e.2.2.2 ∈ lw_tbl)) = true := by decide +kernel
theorem px_n12 : (List.range 3).all (fun k => decide (Cond.laysStatic (px_gn k).1 (px_gn k).2.1 (px_gn k).2.2 ∈ lw_tbl) && decide (Cond.initialized (px_gn k).1 ∈ lw_tbl)) = true := by decide +kernel
theorem px_n13 : Cond.arrayClass .int ∈ lw_tbl ∧ Cond.arrayClass .long ∈ lw_tbl ∧ Cond.arrayClass .boolean ∈ lw_tbl ∧ Cond.arrayClass .byte ∈ lw_tbl := by decide +kernel
theorem px_selen : px_se.length = 13 := by decide +kernel
