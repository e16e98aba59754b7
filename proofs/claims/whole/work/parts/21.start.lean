/-! the law's start: the fixed objects, the classes (by program) -/
def nwL : List Jvm.Cond := flatC (Jvm.Cond.and given_1 narrow_1)
def sTm (i : Nat) : Term := match i with
  | 0 => .string "OneCode" 471
  | 1 => .string "OneCode" 473
  | 2 => .string "OneCode" 475
  | 3 => .string "OneCode" 477
  | 4 => .string "OneCode" 479
  | 5 => .string "OneCode" 481
  | 6 => .string "OneCode$Text" 77
  | 7 => .string "OneCode$Text" 83
  | 8 => .string "OneCode$Text" 85
  | 9 => .string "OneCode$Text" 90
  | 10 => .string "OneCode$Text" 99
  | 11 => .string "OneCode$Text" 101
  | 12 => .string "OneCode$Text" 103
  | 13 => .string "OneCode$Text" 112
  | 14 => .string "OneCode$Text" 114
  | _ => .string "OneCode$Text" 116
theorem st_ex {args : Array Value} {s : State} (hs : ∀ w ∈ nwL, w.before args s = true) (i : Nat) (hi : i < 16) : (Cond.exactly (sTm i) "java/lang/String").before args s = true := by
  match i, hi with
  | 0, _ => exact hs _ (List.mem_of_getElem? (i := 127) (by decide +kernel))
  | 1, _ => exact hs _ (List.mem_of_getElem? (i := 143) (by decide +kernel))
  | 2, _ => exact hs _ (List.mem_of_getElem? (i := 159) (by decide +kernel))
  | 3, _ => exact hs _ (List.mem_of_getElem? (i := 178) (by decide +kernel))
  | 4, _ => exact hs _ (List.mem_of_getElem? (i := 197) (by decide +kernel))
  | 5, _ => exact hs _ (List.mem_of_getElem? (i := 217) (by decide +kernel))
  | 6, _ => exact hs _ (List.mem_of_getElem? (i := 35) (by decide +kernel))
  | 7, _ => exact hs _ (List.mem_of_getElem? (i := 43) (by decide +kernel))
  | 8, _ => exact hs _ (List.mem_of_getElem? (i := 53) (by decide +kernel))
  | 9, _ => exact hs _ (List.mem_of_getElem? (i := 64) (by decide +kernel))
  | 10, _ => exact hs _ (List.mem_of_getElem? (i := 74) (by decide +kernel))
  | 11, _ => exact hs _ (List.mem_of_getElem? (i := 83) (by decide +kernel))
  | 12, _ => exact hs _ (List.mem_of_getElem? (i := 99) (by decide +kernel))
  | 13, _ => exact hs _ (List.mem_of_getElem? (i := 239) (by decide +kernel))
  | 14, _ => exact hs _ (List.mem_of_getElem? (i := 260) (by decide +kernel))
  | 15, _ => exact hs _ (List.mem_of_getElem? (i := 112) (by decide +kernel))
  | k + 16, h => exact absurd h (by omega)
theorem st_co {args : Array Value} {s : State} (hs : ∀ w ∈ nwL, w.before args s = true) (i : Nat) (hi : i < 16) : (Cond.eq (.field (sTm i) "java/lang/String" "coder" "B") (.int 0)).before args s = true := by
  match i, hi with
  | 0, _ => exact hs _ (List.mem_of_getElem? (i := 128) (by decide +kernel))
  | 1, _ => exact hs _ (List.mem_of_getElem? (i := 144) (by decide +kernel))
  | 2, _ => exact hs _ (List.mem_of_getElem? (i := 160) (by decide +kernel))
  | 3, _ => exact hs _ (List.mem_of_getElem? (i := 179) (by decide +kernel))
  | 4, _ => exact hs _ (List.mem_of_getElem? (i := 198) (by decide +kernel))
  | 5, _ => exact hs _ (List.mem_of_getElem? (i := 218) (by decide +kernel))
  | 6, _ => exact hs _ (List.mem_of_getElem? (i := 36) (by decide +kernel))
  | 7, _ => exact hs _ (List.mem_of_getElem? (i := 44) (by decide +kernel))
  | 8, _ => exact hs _ (List.mem_of_getElem? (i := 54) (by decide +kernel))
  | 9, _ => exact hs _ (List.mem_of_getElem? (i := 65) (by decide +kernel))
  | 10, _ => exact hs _ (List.mem_of_getElem? (i := 75) (by decide +kernel))
  | 11, _ => exact hs _ (List.mem_of_getElem? (i := 84) (by decide +kernel))
  | 12, _ => exact hs _ (List.mem_of_getElem? (i := 100) (by decide +kernel))
  | 13, _ => exact hs _ (List.mem_of_getElem? (i := 240) (by decide +kernel))
  | 14, _ => exact hs _ (List.mem_of_getElem? (i := 261) (by decide +kernel))
  | 15, _ => exact hs _ (List.mem_of_getElem? (i := 113) (by decide +kernel))
  | k + 16, h => exact absurd h (by omega)
theorem st_ar {args : Array Value} {s : State} (hs : ∀ w ∈ nwL, w.before args s = true) (i : Nat) (hi : i < 16) : (Cond.arrayOf (.field (sTm i) "java/lang/String" "value" "[B") .byte).before args s = true := by
  match i, hi with
  | 0, _ => exact hs _ (List.mem_of_getElem? (i := 129) (by decide +kernel))
  | 1, _ => exact hs _ (List.mem_of_getElem? (i := 145) (by decide +kernel))
  | 2, _ => exact hs _ (List.mem_of_getElem? (i := 161) (by decide +kernel))
  | 3, _ => exact hs _ (List.mem_of_getElem? (i := 180) (by decide +kernel))
  | 4, _ => exact hs _ (List.mem_of_getElem? (i := 199) (by decide +kernel))
  | 5, _ => exact hs _ (List.mem_of_getElem? (i := 219) (by decide +kernel))
  | 6, _ => exact hs _ (List.mem_of_getElem? (i := 37) (by decide +kernel))
  | 7, _ => exact hs _ (List.mem_of_getElem? (i := 45) (by decide +kernel))
  | 8, _ => exact hs _ (List.mem_of_getElem? (i := 55) (by decide +kernel))
  | 9, _ => exact hs _ (List.mem_of_getElem? (i := 66) (by decide +kernel))
  | 10, _ => exact hs _ (List.mem_of_getElem? (i := 76) (by decide +kernel))
  | 11, _ => exact hs _ (List.mem_of_getElem? (i := 85) (by decide +kernel))
  | 12, _ => exact hs _ (List.mem_of_getElem? (i := 101) (by decide +kernel))
  | 13, _ => exact hs _ (List.mem_of_getElem? (i := 241) (by decide +kernel))
  | 14, _ => exact hs _ (List.mem_of_getElem? (i := 262) (by decide +kernel))
  | 15, _ => exact hs _ (List.mem_of_getElem? (i := 114) (by decide +kernel))
  | k + 16, h => exact absurd h (by omega)
theorem st_le {args : Array Value} {s : State} (hs : ∀ w ∈ nwL, w.before args s = true) (i : Nat) (hi : i < 16) : (Cond.eq (.length (.field (sTm i) "java/lang/String" "value" "[B")) (.int (Int32.ofNat (lensS.getD i 0)))).before args s = true := by
  match i, hi with
  | 0, _ => exact hs _ (List.mem_of_getElem? (i := 130) (by decide +kernel))
  | 1, _ => exact hs _ (List.mem_of_getElem? (i := 146) (by decide +kernel))
  | 2, _ => exact hs _ (List.mem_of_getElem? (i := 162) (by decide +kernel))
  | 3, _ => exact hs _ (List.mem_of_getElem? (i := 181) (by decide +kernel))
  | 4, _ => exact hs _ (List.mem_of_getElem? (i := 200) (by decide +kernel))
  | 5, _ => exact hs _ (List.mem_of_getElem? (i := 220) (by decide +kernel))
  | 6, _ => exact hs _ (List.mem_of_getElem? (i := 38) (by decide +kernel))
  | 7, _ => exact hs _ (List.mem_of_getElem? (i := 46) (by decide +kernel))
  | 8, _ => exact hs _ (List.mem_of_getElem? (i := 56) (by decide +kernel))
  | 9, _ => exact hs _ (List.mem_of_getElem? (i := 67) (by decide +kernel))
  | 10, _ => exact hs _ (List.mem_of_getElem? (i := 77) (by decide +kernel))
  | 11, _ => exact hs _ (List.mem_of_getElem? (i := 86) (by decide +kernel))
  | 12, _ => exact hs _ (List.mem_of_getElem? (i := 102) (by decide +kernel))
  | 13, _ => exact hs _ (List.mem_of_getElem? (i := 242) (by decide +kernel))
  | 14, _ => exact hs _ (List.mem_of_getElem? (i := 263) (by decide +kernel))
  | 15, _ => exact hs _ (List.mem_of_getElem? (i := 115) (by decide +kernel))
  | k + 16, h => exact absurd h (by omega)
theorem st_el0 {args : Array Value} {s : State} (hs : ∀ w ∈ nwL, w.before args s = true) (j : Nat) (hj : j < lensS.getD 0 0) : (Cond.eq (.elem (.field (sTm 0) "java/lang/String" "value" "[B") (.int (Int32.ofNat j))) (.int ((bytsS.getD 0 []).getD j 0))).before args s = true := by
  have hj : j < 4 := hj
  match j, hj with
  | 0, _ => exact hs _ (List.mem_of_getElem? (i := 131) (by decide +kernel))
  | 1, _ => exact hs _ (List.mem_of_getElem? (i := 132) (by decide +kernel))
  | 2, _ => exact hs _ (List.mem_of_getElem? (i := 133) (by decide +kernel))
  | 3, _ => exact hs _ (List.mem_of_getElem? (i := 134) (by decide +kernel))
  | k + 4, h => exact absurd h (by omega)
theorem st_el1 {args : Array Value} {s : State} (hs : ∀ w ∈ nwL, w.before args s = true) (j : Nat) (hj : j < lensS.getD 1 0) : (Cond.eq (.elem (.field (sTm 1) "java/lang/String" "value" "[B") (.int (Int32.ofNat j))) (.int ((bytsS.getD 1 []).getD j 0))).before args s = true := by
  have hj : j < 3 := hj
  match j, hj with
  | 0, _ => exact hs _ (List.mem_of_getElem? (i := 147) (by decide +kernel))
  | 1, _ => exact hs _ (List.mem_of_getElem? (i := 148) (by decide +kernel))
  | 2, _ => exact hs _ (List.mem_of_getElem? (i := 149) (by decide +kernel))
  | k + 3, h => exact absurd h (by omega)
theorem st_el2 {args : Array Value} {s : State} (hs : ∀ w ∈ nwL, w.before args s = true) (j : Nat) (hj : j < lensS.getD 2 0) : (Cond.eq (.elem (.field (sTm 2) "java/lang/String" "value" "[B") (.int (Int32.ofNat j))) (.int ((bytsS.getD 2 []).getD j 0))).before args s = true := by
  have hj : j < 5 := hj
  match j, hj with
  | 0, _ => exact hs _ (List.mem_of_getElem? (i := 163) (by decide +kernel))
  | 1, _ => exact hs _ (List.mem_of_getElem? (i := 164) (by decide +kernel))
  | 2, _ => exact hs _ (List.mem_of_getElem? (i := 165) (by decide +kernel))
  | 3, _ => exact hs _ (List.mem_of_getElem? (i := 166) (by decide +kernel))
  | 4, _ => exact hs _ (List.mem_of_getElem? (i := 167) (by decide +kernel))
  | k + 5, h => exact absurd h (by omega)
theorem st_el3 {args : Array Value} {s : State} (hs : ∀ w ∈ nwL, w.before args s = true) (j : Nat) (hj : j < lensS.getD 3 0) : (Cond.eq (.elem (.field (sTm 3) "java/lang/String" "value" "[B") (.int (Int32.ofNat j))) (.int ((bytsS.getD 3 []).getD j 0))).before args s = true := by
  have hj : j < 4 := hj
  match j, hj with
  | 0, _ => exact hs _ (List.mem_of_getElem? (i := 182) (by decide +kernel))
  | 1, _ => exact hs _ (List.mem_of_getElem? (i := 183) (by decide +kernel))
  | 2, _ => exact hs _ (List.mem_of_getElem? (i := 184) (by decide +kernel))
  | 3, _ => exact hs _ (List.mem_of_getElem? (i := 185) (by decide +kernel))
  | k + 4, h => exact absurd h (by omega)
theorem st_el4 {args : Array Value} {s : State} (hs : ∀ w ∈ nwL, w.before args s = true) (j : Nat) (hj : j < lensS.getD 4 0) : (Cond.eq (.elem (.field (sTm 4) "java/lang/String" "value" "[B") (.int (Int32.ofNat j))) (.int ((bytsS.getD 4 []).getD j 0))).before args s = true := by
  have hj : j < 4 := hj
  match j, hj with
  | 0, _ => exact hs _ (List.mem_of_getElem? (i := 201) (by decide +kernel))
  | 1, _ => exact hs _ (List.mem_of_getElem? (i := 202) (by decide +kernel))
  | 2, _ => exact hs _ (List.mem_of_getElem? (i := 203) (by decide +kernel))
  | 3, _ => exact hs _ (List.mem_of_getElem? (i := 204) (by decide +kernel))
  | k + 4, h => exact absurd h (by omega)
theorem st_el5 {args : Array Value} {s : State} (hs : ∀ w ∈ nwL, w.before args s = true) (j : Nat) (hj : j < lensS.getD 5 0) : (Cond.eq (.elem (.field (sTm 5) "java/lang/String" "value" "[B") (.int (Int32.ofNat j))) (.int ((bytsS.getD 5 []).getD j 0))).before args s = true := by
  have hj : j < 5 := hj
  match j, hj with
  | 0, _ => exact hs _ (List.mem_of_getElem? (i := 221) (by decide +kernel))
  | 1, _ => exact hs _ (List.mem_of_getElem? (i := 222) (by decide +kernel))
  | 2, _ => exact hs _ (List.mem_of_getElem? (i := 223) (by decide +kernel))
  | 3, _ => exact hs _ (List.mem_of_getElem? (i := 224) (by decide +kernel))
  | 4, _ => exact hs _ (List.mem_of_getElem? (i := 225) (by decide +kernel))
  | k + 5, h => exact absurd h (by omega)
theorem st_el6 {args : Array Value} {s : State} (hs : ∀ w ∈ nwL, w.before args s = true) (j : Nat) (hj : j < lensS.getD 6 0) : (Cond.eq (.elem (.field (sTm 6) "java/lang/String" "value" "[B") (.int (Int32.ofNat j))) (.int ((bytsS.getD 6 []).getD j 0))).before args s = true := by
  have hj : j < 4 := hj
  match j, hj with
  | 0, _ => exact hs _ (List.mem_of_getElem? (i := 39) (by decide +kernel))
  | 1, _ => exact hs _ (List.mem_of_getElem? (i := 40) (by decide +kernel))
  | 2, _ => exact hs _ (List.mem_of_getElem? (i := 41) (by decide +kernel))
  | 3, _ => exact hs _ (List.mem_of_getElem? (i := 42) (by decide +kernel))
  | k + 4, h => exact absurd h (by omega)
theorem st_el7 {args : Array Value} {s : State} (hs : ∀ w ∈ nwL, w.before args s = true) (j : Nat) (hj : j < lensS.getD 7 0) : (Cond.eq (.elem (.field (sTm 7) "java/lang/String" "value" "[B") (.int (Int32.ofNat j))) (.int ((bytsS.getD 7 []).getD j 0))).before args s = true := by
  have hj : j < 5 := hj
  match j, hj with
  | 0, _ => exact hs _ (List.mem_of_getElem? (i := 47) (by decide +kernel))
  | 1, _ => exact hs _ (List.mem_of_getElem? (i := 48) (by decide +kernel))
  | 2, _ => exact hs _ (List.mem_of_getElem? (i := 49) (by decide +kernel))
  | 3, _ => exact hs _ (List.mem_of_getElem? (i := 50) (by decide +kernel))
  | 4, _ => exact hs _ (List.mem_of_getElem? (i := 51) (by decide +kernel))
  | k + 5, h => exact absurd h (by omega)
theorem st_el8 {args : Array Value} {s : State} (hs : ∀ w ∈ nwL, w.before args s = true) (j : Nat) (hj : j < lensS.getD 8 0) : (Cond.eq (.elem (.field (sTm 8) "java/lang/String" "value" "[B") (.int (Int32.ofNat j))) (.int ((bytsS.getD 8 []).getD j 0))).before args s = true := by
  have hj : j < 5 := hj
  match j, hj with
  | 0, _ => exact hs _ (List.mem_of_getElem? (i := 57) (by decide +kernel))
  | 1, _ => exact hs _ (List.mem_of_getElem? (i := 58) (by decide +kernel))
  | 2, _ => exact hs _ (List.mem_of_getElem? (i := 59) (by decide +kernel))
  | 3, _ => exact hs _ (List.mem_of_getElem? (i := 60) (by decide +kernel))
  | 4, _ => exact hs _ (List.mem_of_getElem? (i := 61) (by decide +kernel))
  | k + 5, h => exact absurd h (by omega)
theorem st_el9 {args : Array Value} {s : State} (hs : ∀ w ∈ nwL, w.before args s = true) (j : Nat) (hj : j < lensS.getD 9 0) : (Cond.eq (.elem (.field (sTm 9) "java/lang/String" "value" "[B") (.int (Int32.ofNat j))) (.int ((bytsS.getD 9 []).getD j 0))).before args s = true := by
  have hj : j < 3 := hj
  match j, hj with
  | 0, _ => exact hs _ (List.mem_of_getElem? (i := 68) (by decide +kernel))
  | 1, _ => exact hs _ (List.mem_of_getElem? (i := 69) (by decide +kernel))
  | 2, _ => exact hs _ (List.mem_of_getElem? (i := 70) (by decide +kernel))
  | k + 3, h => exact absurd h (by omega)
theorem st_el10 {args : Array Value} {s : State} (hs : ∀ w ∈ nwL, w.before args s = true) (j : Nat) (hj : j < lensS.getD 10 0) : (Cond.eq (.elem (.field (sTm 10) "java/lang/String" "value" "[B") (.int (Int32.ofNat j))) (.int ((bytsS.getD 10 []).getD j 0))).before args s = true := by
  have hj : j < 1 := hj
  match j, hj with
  | 0, _ => exact hs _ (List.mem_of_getElem? (i := 78) (by decide +kernel))
  | k + 1, h => exact absurd h (by omega)
theorem st_el11 {args : Array Value} {s : State} (hs : ∀ w ∈ nwL, w.before args s = true) (j : Nat) (hj : j < lensS.getD 11 0) : (Cond.eq (.elem (.field (sTm 11) "java/lang/String" "value" "[B") (.int (Int32.ofNat j))) (.int ((bytsS.getD 11 []).getD j 0))).before args s = true := by
  have hj : j < 7 := hj
  match j, hj with
  | 0, _ => exact hs _ (List.mem_of_getElem? (i := 87) (by decide +kernel))
  | 1, _ => exact hs _ (List.mem_of_getElem? (i := 88) (by decide +kernel))
  | 2, _ => exact hs _ (List.mem_of_getElem? (i := 89) (by decide +kernel))
  | 3, _ => exact hs _ (List.mem_of_getElem? (i := 90) (by decide +kernel))
  | 4, _ => exact hs _ (List.mem_of_getElem? (i := 91) (by decide +kernel))
  | 5, _ => exact hs _ (List.mem_of_getElem? (i := 92) (by decide +kernel))
  | 6, _ => exact hs _ (List.mem_of_getElem? (i := 93) (by decide +kernel))
  | k + 7, h => exact absurd h (by omega)
theorem st_el12 {args : Array Value} {s : State} (hs : ∀ w ∈ nwL, w.before args s = true) (j : Nat) (hj : j < lensS.getD 12 0) : (Cond.eq (.elem (.field (sTm 12) "java/lang/String" "value" "[B") (.int (Int32.ofNat j))) (.int ((bytsS.getD 12 []).getD j 0))).before args s = true := by
  have hj : j < 3 := hj
  match j, hj with
  | 0, _ => exact hs _ (List.mem_of_getElem? (i := 103) (by decide +kernel))
  | 1, _ => exact hs _ (List.mem_of_getElem? (i := 104) (by decide +kernel))
  | 2, _ => exact hs _ (List.mem_of_getElem? (i := 105) (by decide +kernel))
  | k + 3, h => exact absurd h (by omega)
theorem st_el13 {args : Array Value} {s : State} (hs : ∀ w ∈ nwL, w.before args s = true) (j : Nat) (hj : j < lensS.getD 13 0) : (Cond.eq (.elem (.field (sTm 13) "java/lang/String" "value" "[B") (.int (Int32.ofNat j))) (.int ((bytsS.getD 13 []).getD j 0))).before args s = true := by
  have hj : j < 3 := hj
  match j, hj with
  | 0, _ => exact hs _ (List.mem_of_getElem? (i := 243) (by decide +kernel))
  | 1, _ => exact hs _ (List.mem_of_getElem? (i := 244) (by decide +kernel))
  | 2, _ => exact hs _ (List.mem_of_getElem? (i := 245) (by decide +kernel))
  | k + 3, h => exact absurd h (by omega)
theorem st_el14 {args : Array Value} {s : State} (hs : ∀ w ∈ nwL, w.before args s = true) (j : Nat) (hj : j < lensS.getD 14 0) : (Cond.eq (.elem (.field (sTm 14) "java/lang/String" "value" "[B") (.int (Int32.ofNat j))) (.int ((bytsS.getD 14 []).getD j 0))).before args s = true := by
  have hj : j < 4 := hj
  match j, hj with
  | 0, _ => exact hs _ (List.mem_of_getElem? (i := 264) (by decide +kernel))
  | 1, _ => exact hs _ (List.mem_of_getElem? (i := 265) (by decide +kernel))
  | 2, _ => exact hs _ (List.mem_of_getElem? (i := 266) (by decide +kernel))
  | 3, _ => exact hs _ (List.mem_of_getElem? (i := 267) (by decide +kernel))
  | k + 4, h => exact absurd h (by omega)
theorem st_el15 {args : Array Value} {s : State} (hs : ∀ w ∈ nwL, w.before args s = true) (j : Nat) (hj : j < lensS.getD 15 0) : (Cond.eq (.elem (.field (sTm 15) "java/lang/String" "value" "[B") (.int (Int32.ofNat j))) (.int ((bytsS.getD 15 []).getD j 0))).before args s = true := by
  have hj : j < 4 := hj
  match j, hj with
  | 0, _ => exact hs _ (List.mem_of_getElem? (i := 116) (by decide +kernel))
  | 1, _ => exact hs _ (List.mem_of_getElem? (i := 117) (by decide +kernel))
  | 2, _ => exact hs _ (List.mem_of_getElem? (i := 118) (by decide +kernel))
  | 3, _ => exact hs _ (List.mem_of_getElem? (i := 119) (by decide +kernel))
  | k + 4, h => exact absurd h (by omega)
theorem st_el {args : Array Value} {s : State} (hs : ∀ w ∈ nwL, w.before args s = true) (i : Nat) (hi : i < 16) (j : Nat) (hj : j < lensS.getD i 0) : (Cond.eq (.elem (.field (sTm i) "java/lang/String" "value" "[B") (.int (Int32.ofNat j))) (.int ((bytsS.getD i []).getD j 0))).before args s = true := by
  match i, hi, hj with
  | 0, _, hj => exact st_el0 hs j hj
  | 1, _, hj => exact st_el1 hs j hj
  | 2, _, hj => exact st_el2 hs j hj
  | 3, _, hj => exact st_el3 hs j hj
  | 4, _, hj => exact st_el4 hs j hj
  | 5, _, hj => exact st_el5 hs j hj
  | 6, _, hj => exact st_el6 hs j hj
  | 7, _, hj => exact st_el7 hs j hj
  | 8, _, hj => exact st_el8 hs j hj
  | 9, _, hj => exact st_el9 hs j hj
  | 10, _, hj => exact st_el10 hs j hj
  | 11, _, hj => exact st_el11 hs j hj
  | 12, _, hj => exact st_el12 hs j hj
  | 13, _, hj => exact st_el13 hs j hj
  | 14, _, hj => exact st_el14 hs j hj
  | 15, _, hj => exact st_el15 hs j hj
  | k + 16, h, _ => exact absurd h (by omega)
theorem st_ne0 {args : Array Value} {s : State} (hs : ∀ w ∈ nwL, w.before args s = true) (j : Nat) (hj : j < 16) (h : 0 ≠ j) : (Cond.not (Cond.eq (sTm 0) (sTm j))).before args s = true ∨ (Cond.not (Cond.eq (sTm j) (sTm 0))).before args s = true := by
  match j, hj, h with
  | 0, _, h => exact absurd rfl h
  | 1, _, _ => exact Or.inl (hs _ (List.mem_of_getElem? (i := 158) (by decide +kernel)))
  | 2, _, _ => exact Or.inl (hs _ (List.mem_of_getElem? (i := 176) (by decide +kernel)))
  | 3, _, _ => exact Or.inl (hs _ (List.mem_of_getElem? (i := 194) (by decide +kernel)))
  | 4, _, _ => exact Or.inl (hs _ (List.mem_of_getElem? (i := 213) (by decide +kernel)))
  | 5, _, _ => exact Or.inl (hs _ (List.mem_of_getElem? (i := 234) (by decide +kernel)))
  | 6, _, _ => exact Or.inr (hs _ (List.mem_of_getElem? (i := 135) (by decide +kernel)))
  | 7, _, _ => exact Or.inr (hs _ (List.mem_of_getElem? (i := 136) (by decide +kernel)))
  | 8, _, _ => exact Or.inr (hs _ (List.mem_of_getElem? (i := 137) (by decide +kernel)))
  | 9, _, _ => exact Or.inr (hs _ (List.mem_of_getElem? (i := 138) (by decide +kernel)))
  | 10, _, _ => exact Or.inr (hs _ (List.mem_of_getElem? (i := 139) (by decide +kernel)))
  | 11, _, _ => exact Or.inr (hs _ (List.mem_of_getElem? (i := 140) (by decide +kernel)))
  | 12, _, _ => exact Or.inr (hs _ (List.mem_of_getElem? (i := 141) (by decide +kernel)))
  | 13, _, _ => exact Or.inl (hs _ (List.mem_of_getElem? (i := 254) (by decide +kernel)))
  | 14, _, _ => exact Or.inl (hs _ (List.mem_of_getElem? (i := 276) (by decide +kernel)))
  | 15, _, _ => exact Or.inr (hs _ (List.mem_of_getElem? (i := 142) (by decide +kernel)))
  | k + 16, h, _ => exact absurd h (by omega)
theorem st_ne1 {args : Array Value} {s : State} (hs : ∀ w ∈ nwL, w.before args s = true) (j : Nat) (hj : j < 16) (h : 1 ≠ j) : (Cond.not (Cond.eq (sTm 1) (sTm j))).before args s = true ∨ (Cond.not (Cond.eq (sTm j) (sTm 1))).before args s = true := by
  match j, hj, h with
  | 0, _, _ => exact Or.inr (hs _ (List.mem_of_getElem? (i := 158) (by decide +kernel)))
  | 1, _, h => exact absurd rfl h
  | 2, _, _ => exact Or.inl (hs _ (List.mem_of_getElem? (i := 177) (by decide +kernel)))
  | 3, _, _ => exact Or.inl (hs _ (List.mem_of_getElem? (i := 195) (by decide +kernel)))
  | 4, _, _ => exact Or.inl (hs _ (List.mem_of_getElem? (i := 214) (by decide +kernel)))
  | 5, _, _ => exact Or.inl (hs _ (List.mem_of_getElem? (i := 235) (by decide +kernel)))
  | 6, _, _ => exact Or.inr (hs _ (List.mem_of_getElem? (i := 150) (by decide +kernel)))
  | 7, _, _ => exact Or.inr (hs _ (List.mem_of_getElem? (i := 151) (by decide +kernel)))
  | 8, _, _ => exact Or.inr (hs _ (List.mem_of_getElem? (i := 152) (by decide +kernel)))
  | 9, _, _ => exact Or.inr (hs _ (List.mem_of_getElem? (i := 153) (by decide +kernel)))
  | 10, _, _ => exact Or.inr (hs _ (List.mem_of_getElem? (i := 154) (by decide +kernel)))
  | 11, _, _ => exact Or.inr (hs _ (List.mem_of_getElem? (i := 155) (by decide +kernel)))
  | 12, _, _ => exact Or.inr (hs _ (List.mem_of_getElem? (i := 156) (by decide +kernel)))
  | 13, _, _ => exact Or.inl (hs _ (List.mem_of_getElem? (i := 255) (by decide +kernel)))
  | 14, _, _ => exact Or.inl (hs _ (List.mem_of_getElem? (i := 277) (by decide +kernel)))
  | 15, _, _ => exact Or.inr (hs _ (List.mem_of_getElem? (i := 157) (by decide +kernel)))
  | k + 16, h, _ => exact absurd h (by omega)
theorem st_ne2 {args : Array Value} {s : State} (hs : ∀ w ∈ nwL, w.before args s = true) (j : Nat) (hj : j < 16) (h : 2 ≠ j) : (Cond.not (Cond.eq (sTm 2) (sTm j))).before args s = true ∨ (Cond.not (Cond.eq (sTm j) (sTm 2))).before args s = true := by
  match j, hj, h with
  | 0, _, _ => exact Or.inr (hs _ (List.mem_of_getElem? (i := 176) (by decide +kernel)))
  | 1, _, _ => exact Or.inr (hs _ (List.mem_of_getElem? (i := 177) (by decide +kernel)))
  | 2, _, h => exact absurd rfl h
  | 3, _, _ => exact Or.inl (hs _ (List.mem_of_getElem? (i := 196) (by decide +kernel)))
  | 4, _, _ => exact Or.inl (hs _ (List.mem_of_getElem? (i := 215) (by decide +kernel)))
  | 5, _, _ => exact Or.inl (hs _ (List.mem_of_getElem? (i := 236) (by decide +kernel)))
  | 6, _, _ => exact Or.inr (hs _ (List.mem_of_getElem? (i := 168) (by decide +kernel)))
  | 7, _, _ => exact Or.inr (hs _ (List.mem_of_getElem? (i := 169) (by decide +kernel)))
  | 8, _, _ => exact Or.inr (hs _ (List.mem_of_getElem? (i := 170) (by decide +kernel)))
  | 9, _, _ => exact Or.inr (hs _ (List.mem_of_getElem? (i := 171) (by decide +kernel)))
  | 10, _, _ => exact Or.inr (hs _ (List.mem_of_getElem? (i := 172) (by decide +kernel)))
  | 11, _, _ => exact Or.inr (hs _ (List.mem_of_getElem? (i := 173) (by decide +kernel)))
  | 12, _, _ => exact Or.inr (hs _ (List.mem_of_getElem? (i := 174) (by decide +kernel)))
  | 13, _, _ => exact Or.inl (hs _ (List.mem_of_getElem? (i := 256) (by decide +kernel)))
  | 14, _, _ => exact Or.inl (hs _ (List.mem_of_getElem? (i := 278) (by decide +kernel)))
  | 15, _, _ => exact Or.inr (hs _ (List.mem_of_getElem? (i := 175) (by decide +kernel)))
  | k + 16, h, _ => exact absurd h (by omega)
theorem st_ne3 {args : Array Value} {s : State} (hs : ∀ w ∈ nwL, w.before args s = true) (j : Nat) (hj : j < 16) (h : 3 ≠ j) : (Cond.not (Cond.eq (sTm 3) (sTm j))).before args s = true ∨ (Cond.not (Cond.eq (sTm j) (sTm 3))).before args s = true := by
  match j, hj, h with
  | 0, _, _ => exact Or.inr (hs _ (List.mem_of_getElem? (i := 194) (by decide +kernel)))
  | 1, _, _ => exact Or.inr (hs _ (List.mem_of_getElem? (i := 195) (by decide +kernel)))
  | 2, _, _ => exact Or.inr (hs _ (List.mem_of_getElem? (i := 196) (by decide +kernel)))
  | 3, _, h => exact absurd rfl h
  | 4, _, _ => exact Or.inl (hs _ (List.mem_of_getElem? (i := 216) (by decide +kernel)))
  | 5, _, _ => exact Or.inl (hs _ (List.mem_of_getElem? (i := 237) (by decide +kernel)))
  | 6, _, _ => exact Or.inr (hs _ (List.mem_of_getElem? (i := 186) (by decide +kernel)))
  | 7, _, _ => exact Or.inr (hs _ (List.mem_of_getElem? (i := 187) (by decide +kernel)))
  | 8, _, _ => exact Or.inr (hs _ (List.mem_of_getElem? (i := 188) (by decide +kernel)))
  | 9, _, _ => exact Or.inr (hs _ (List.mem_of_getElem? (i := 189) (by decide +kernel)))
  | 10, _, _ => exact Or.inr (hs _ (List.mem_of_getElem? (i := 190) (by decide +kernel)))
  | 11, _, _ => exact Or.inr (hs _ (List.mem_of_getElem? (i := 191) (by decide +kernel)))
  | 12, _, _ => exact Or.inr (hs _ (List.mem_of_getElem? (i := 192) (by decide +kernel)))
  | 13, _, _ => exact Or.inl (hs _ (List.mem_of_getElem? (i := 257) (by decide +kernel)))
  | 14, _, _ => exact Or.inl (hs _ (List.mem_of_getElem? (i := 279) (by decide +kernel)))
  | 15, _, _ => exact Or.inr (hs _ (List.mem_of_getElem? (i := 193) (by decide +kernel)))
  | k + 16, h, _ => exact absurd h (by omega)
theorem st_ne4 {args : Array Value} {s : State} (hs : ∀ w ∈ nwL, w.before args s = true) (j : Nat) (hj : j < 16) (h : 4 ≠ j) : (Cond.not (Cond.eq (sTm 4) (sTm j))).before args s = true ∨ (Cond.not (Cond.eq (sTm j) (sTm 4))).before args s = true := by
  match j, hj, h with
  | 0, _, _ => exact Or.inr (hs _ (List.mem_of_getElem? (i := 213) (by decide +kernel)))
  | 1, _, _ => exact Or.inr (hs _ (List.mem_of_getElem? (i := 214) (by decide +kernel)))
  | 2, _, _ => exact Or.inr (hs _ (List.mem_of_getElem? (i := 215) (by decide +kernel)))
  | 3, _, _ => exact Or.inr (hs _ (List.mem_of_getElem? (i := 216) (by decide +kernel)))
  | 4, _, h => exact absurd rfl h
  | 5, _, _ => exact Or.inl (hs _ (List.mem_of_getElem? (i := 238) (by decide +kernel)))
  | 6, _, _ => exact Or.inr (hs _ (List.mem_of_getElem? (i := 205) (by decide +kernel)))
  | 7, _, _ => exact Or.inr (hs _ (List.mem_of_getElem? (i := 206) (by decide +kernel)))
  | 8, _, _ => exact Or.inr (hs _ (List.mem_of_getElem? (i := 207) (by decide +kernel)))
  | 9, _, _ => exact Or.inr (hs _ (List.mem_of_getElem? (i := 208) (by decide +kernel)))
  | 10, _, _ => exact Or.inr (hs _ (List.mem_of_getElem? (i := 209) (by decide +kernel)))
  | 11, _, _ => exact Or.inr (hs _ (List.mem_of_getElem? (i := 210) (by decide +kernel)))
  | 12, _, _ => exact Or.inr (hs _ (List.mem_of_getElem? (i := 211) (by decide +kernel)))
  | 13, _, _ => exact Or.inl (hs _ (List.mem_of_getElem? (i := 258) (by decide +kernel)))
  | 14, _, _ => exact Or.inl (hs _ (List.mem_of_getElem? (i := 280) (by decide +kernel)))
  | 15, _, _ => exact Or.inr (hs _ (List.mem_of_getElem? (i := 212) (by decide +kernel)))
  | k + 16, h, _ => exact absurd h (by omega)
theorem st_ne5 {args : Array Value} {s : State} (hs : ∀ w ∈ nwL, w.before args s = true) (j : Nat) (hj : j < 16) (h : 5 ≠ j) : (Cond.not (Cond.eq (sTm 5) (sTm j))).before args s = true ∨ (Cond.not (Cond.eq (sTm j) (sTm 5))).before args s = true := by
  match j, hj, h with
  | 0, _, _ => exact Or.inr (hs _ (List.mem_of_getElem? (i := 234) (by decide +kernel)))
  | 1, _, _ => exact Or.inr (hs _ (List.mem_of_getElem? (i := 235) (by decide +kernel)))
  | 2, _, _ => exact Or.inr (hs _ (List.mem_of_getElem? (i := 236) (by decide +kernel)))
  | 3, _, _ => exact Or.inr (hs _ (List.mem_of_getElem? (i := 237) (by decide +kernel)))
  | 4, _, _ => exact Or.inr (hs _ (List.mem_of_getElem? (i := 238) (by decide +kernel)))
  | 5, _, h => exact absurd rfl h
  | 6, _, _ => exact Or.inr (hs _ (List.mem_of_getElem? (i := 226) (by decide +kernel)))
  | 7, _, _ => exact Or.inr (hs _ (List.mem_of_getElem? (i := 227) (by decide +kernel)))
  | 8, _, _ => exact Or.inr (hs _ (List.mem_of_getElem? (i := 228) (by decide +kernel)))
  | 9, _, _ => exact Or.inr (hs _ (List.mem_of_getElem? (i := 229) (by decide +kernel)))
  | 10, _, _ => exact Or.inr (hs _ (List.mem_of_getElem? (i := 230) (by decide +kernel)))
  | 11, _, _ => exact Or.inr (hs _ (List.mem_of_getElem? (i := 231) (by decide +kernel)))
  | 12, _, _ => exact Or.inr (hs _ (List.mem_of_getElem? (i := 232) (by decide +kernel)))
  | 13, _, _ => exact Or.inl (hs _ (List.mem_of_getElem? (i := 259) (by decide +kernel)))
  | 14, _, _ => exact Or.inl (hs _ (List.mem_of_getElem? (i := 281) (by decide +kernel)))
  | 15, _, _ => exact Or.inr (hs _ (List.mem_of_getElem? (i := 233) (by decide +kernel)))
  | k + 16, h, _ => exact absurd h (by omega)
theorem st_ne6 {args : Array Value} {s : State} (hs : ∀ w ∈ nwL, w.before args s = true) (j : Nat) (hj : j < 16) (h : 6 ≠ j) : (Cond.not (Cond.eq (sTm 6) (sTm j))).before args s = true ∨ (Cond.not (Cond.eq (sTm j) (sTm 6))).before args s = true := by
  match j, hj, h with
  | 0, _, _ => exact Or.inl (hs _ (List.mem_of_getElem? (i := 135) (by decide +kernel)))
  | 1, _, _ => exact Or.inl (hs _ (List.mem_of_getElem? (i := 150) (by decide +kernel)))
  | 2, _, _ => exact Or.inl (hs _ (List.mem_of_getElem? (i := 168) (by decide +kernel)))
  | 3, _, _ => exact Or.inl (hs _ (List.mem_of_getElem? (i := 186) (by decide +kernel)))
  | 4, _, _ => exact Or.inl (hs _ (List.mem_of_getElem? (i := 205) (by decide +kernel)))
  | 5, _, _ => exact Or.inl (hs _ (List.mem_of_getElem? (i := 226) (by decide +kernel)))
  | 6, _, h => exact absurd rfl h
  | 7, _, _ => exact Or.inl (hs _ (List.mem_of_getElem? (i := 52) (by decide +kernel)))
  | 8, _, _ => exact Or.inl (hs _ (List.mem_of_getElem? (i := 62) (by decide +kernel)))
  | 9, _, _ => exact Or.inl (hs _ (List.mem_of_getElem? (i := 71) (by decide +kernel)))
  | 10, _, _ => exact Or.inl (hs _ (List.mem_of_getElem? (i := 79) (by decide +kernel)))
  | 11, _, _ => exact Or.inl (hs _ (List.mem_of_getElem? (i := 94) (by decide +kernel)))
  | 12, _, _ => exact Or.inl (hs _ (List.mem_of_getElem? (i := 106) (by decide +kernel)))
  | 13, _, _ => exact Or.inl (hs _ (List.mem_of_getElem? (i := 246) (by decide +kernel)))
  | 14, _, _ => exact Or.inl (hs _ (List.mem_of_getElem? (i := 268) (by decide +kernel)))
  | 15, _, _ => exact Or.inl (hs _ (List.mem_of_getElem? (i := 120) (by decide +kernel)))
  | k + 16, h, _ => exact absurd h (by omega)
theorem st_ne7 {args : Array Value} {s : State} (hs : ∀ w ∈ nwL, w.before args s = true) (j : Nat) (hj : j < 16) (h : 7 ≠ j) : (Cond.not (Cond.eq (sTm 7) (sTm j))).before args s = true ∨ (Cond.not (Cond.eq (sTm j) (sTm 7))).before args s = true := by
  match j, hj, h with
  | 0, _, _ => exact Or.inl (hs _ (List.mem_of_getElem? (i := 136) (by decide +kernel)))
  | 1, _, _ => exact Or.inl (hs _ (List.mem_of_getElem? (i := 151) (by decide +kernel)))
  | 2, _, _ => exact Or.inl (hs _ (List.mem_of_getElem? (i := 169) (by decide +kernel)))
  | 3, _, _ => exact Or.inl (hs _ (List.mem_of_getElem? (i := 187) (by decide +kernel)))
  | 4, _, _ => exact Or.inl (hs _ (List.mem_of_getElem? (i := 206) (by decide +kernel)))
  | 5, _, _ => exact Or.inl (hs _ (List.mem_of_getElem? (i := 227) (by decide +kernel)))
  | 6, _, _ => exact Or.inr (hs _ (List.mem_of_getElem? (i := 52) (by decide +kernel)))
  | 7, _, h => exact absurd rfl h
  | 8, _, _ => exact Or.inl (hs _ (List.mem_of_getElem? (i := 63) (by decide +kernel)))
  | 9, _, _ => exact Or.inl (hs _ (List.mem_of_getElem? (i := 72) (by decide +kernel)))
  | 10, _, _ => exact Or.inl (hs _ (List.mem_of_getElem? (i := 80) (by decide +kernel)))
  | 11, _, _ => exact Or.inl (hs _ (List.mem_of_getElem? (i := 95) (by decide +kernel)))
  | 12, _, _ => exact Or.inl (hs _ (List.mem_of_getElem? (i := 107) (by decide +kernel)))
  | 13, _, _ => exact Or.inl (hs _ (List.mem_of_getElem? (i := 247) (by decide +kernel)))
  | 14, _, _ => exact Or.inl (hs _ (List.mem_of_getElem? (i := 269) (by decide +kernel)))
  | 15, _, _ => exact Or.inl (hs _ (List.mem_of_getElem? (i := 121) (by decide +kernel)))
  | k + 16, h, _ => exact absurd h (by omega)
theorem st_ne8 {args : Array Value} {s : State} (hs : ∀ w ∈ nwL, w.before args s = true) (j : Nat) (hj : j < 16) (h : 8 ≠ j) : (Cond.not (Cond.eq (sTm 8) (sTm j))).before args s = true ∨ (Cond.not (Cond.eq (sTm j) (sTm 8))).before args s = true := by
  match j, hj, h with
  | 0, _, _ => exact Or.inl (hs _ (List.mem_of_getElem? (i := 137) (by decide +kernel)))
  | 1, _, _ => exact Or.inl (hs _ (List.mem_of_getElem? (i := 152) (by decide +kernel)))
  | 2, _, _ => exact Or.inl (hs _ (List.mem_of_getElem? (i := 170) (by decide +kernel)))
  | 3, _, _ => exact Or.inl (hs _ (List.mem_of_getElem? (i := 188) (by decide +kernel)))
  | 4, _, _ => exact Or.inl (hs _ (List.mem_of_getElem? (i := 207) (by decide +kernel)))
  | 5, _, _ => exact Or.inl (hs _ (List.mem_of_getElem? (i := 228) (by decide +kernel)))
  | 6, _, _ => exact Or.inr (hs _ (List.mem_of_getElem? (i := 62) (by decide +kernel)))
  | 7, _, _ => exact Or.inr (hs _ (List.mem_of_getElem? (i := 63) (by decide +kernel)))
  | 8, _, h => exact absurd rfl h
  | 9, _, _ => exact Or.inl (hs _ (List.mem_of_getElem? (i := 73) (by decide +kernel)))
  | 10, _, _ => exact Or.inl (hs _ (List.mem_of_getElem? (i := 81) (by decide +kernel)))
  | 11, _, _ => exact Or.inl (hs _ (List.mem_of_getElem? (i := 96) (by decide +kernel)))
  | 12, _, _ => exact Or.inl (hs _ (List.mem_of_getElem? (i := 108) (by decide +kernel)))
  | 13, _, _ => exact Or.inl (hs _ (List.mem_of_getElem? (i := 248) (by decide +kernel)))
  | 14, _, _ => exact Or.inl (hs _ (List.mem_of_getElem? (i := 270) (by decide +kernel)))
  | 15, _, _ => exact Or.inl (hs _ (List.mem_of_getElem? (i := 122) (by decide +kernel)))
  | k + 16, h, _ => exact absurd h (by omega)
theorem st_ne9 {args : Array Value} {s : State} (hs : ∀ w ∈ nwL, w.before args s = true) (j : Nat) (hj : j < 16) (h : 9 ≠ j) : (Cond.not (Cond.eq (sTm 9) (sTm j))).before args s = true ∨ (Cond.not (Cond.eq (sTm j) (sTm 9))).before args s = true := by
  match j, hj, h with
  | 0, _, _ => exact Or.inl (hs _ (List.mem_of_getElem? (i := 138) (by decide +kernel)))
  | 1, _, _ => exact Or.inl (hs _ (List.mem_of_getElem? (i := 153) (by decide +kernel)))
  | 2, _, _ => exact Or.inl (hs _ (List.mem_of_getElem? (i := 171) (by decide +kernel)))
  | 3, _, _ => exact Or.inl (hs _ (List.mem_of_getElem? (i := 189) (by decide +kernel)))
  | 4, _, _ => exact Or.inl (hs _ (List.mem_of_getElem? (i := 208) (by decide +kernel)))
  | 5, _, _ => exact Or.inl (hs _ (List.mem_of_getElem? (i := 229) (by decide +kernel)))
  | 6, _, _ => exact Or.inr (hs _ (List.mem_of_getElem? (i := 71) (by decide +kernel)))
  | 7, _, _ => exact Or.inr (hs _ (List.mem_of_getElem? (i := 72) (by decide +kernel)))
  | 8, _, _ => exact Or.inr (hs _ (List.mem_of_getElem? (i := 73) (by decide +kernel)))
  | 9, _, h => exact absurd rfl h
  | 10, _, _ => exact Or.inl (hs _ (List.mem_of_getElem? (i := 82) (by decide +kernel)))
  | 11, _, _ => exact Or.inl (hs _ (List.mem_of_getElem? (i := 97) (by decide +kernel)))
  | 12, _, _ => exact Or.inl (hs _ (List.mem_of_getElem? (i := 109) (by decide +kernel)))
  | 13, _, _ => exact Or.inl (hs _ (List.mem_of_getElem? (i := 249) (by decide +kernel)))
  | 14, _, _ => exact Or.inl (hs _ (List.mem_of_getElem? (i := 271) (by decide +kernel)))
  | 15, _, _ => exact Or.inl (hs _ (List.mem_of_getElem? (i := 123) (by decide +kernel)))
  | k + 16, h, _ => exact absurd h (by omega)
theorem st_ne10 {args : Array Value} {s : State} (hs : ∀ w ∈ nwL, w.before args s = true) (j : Nat) (hj : j < 16) (h : 10 ≠ j) : (Cond.not (Cond.eq (sTm 10) (sTm j))).before args s = true ∨ (Cond.not (Cond.eq (sTm j) (sTm 10))).before args s = true := by
  match j, hj, h with
  | 0, _, _ => exact Or.inl (hs _ (List.mem_of_getElem? (i := 139) (by decide +kernel)))
  | 1, _, _ => exact Or.inl (hs _ (List.mem_of_getElem? (i := 154) (by decide +kernel)))
  | 2, _, _ => exact Or.inl (hs _ (List.mem_of_getElem? (i := 172) (by decide +kernel)))
  | 3, _, _ => exact Or.inl (hs _ (List.mem_of_getElem? (i := 190) (by decide +kernel)))
  | 4, _, _ => exact Or.inl (hs _ (List.mem_of_getElem? (i := 209) (by decide +kernel)))
  | 5, _, _ => exact Or.inl (hs _ (List.mem_of_getElem? (i := 230) (by decide +kernel)))
  | 6, _, _ => exact Or.inr (hs _ (List.mem_of_getElem? (i := 79) (by decide +kernel)))
  | 7, _, _ => exact Or.inr (hs _ (List.mem_of_getElem? (i := 80) (by decide +kernel)))
  | 8, _, _ => exact Or.inr (hs _ (List.mem_of_getElem? (i := 81) (by decide +kernel)))
  | 9, _, _ => exact Or.inr (hs _ (List.mem_of_getElem? (i := 82) (by decide +kernel)))
  | 10, _, h => exact absurd rfl h
  | 11, _, _ => exact Or.inl (hs _ (List.mem_of_getElem? (i := 98) (by decide +kernel)))
  | 12, _, _ => exact Or.inl (hs _ (List.mem_of_getElem? (i := 110) (by decide +kernel)))
  | 13, _, _ => exact Or.inl (hs _ (List.mem_of_getElem? (i := 250) (by decide +kernel)))
  | 14, _, _ => exact Or.inl (hs _ (List.mem_of_getElem? (i := 272) (by decide +kernel)))
  | 15, _, _ => exact Or.inl (hs _ (List.mem_of_getElem? (i := 124) (by decide +kernel)))
  | k + 16, h, _ => exact absurd h (by omega)
theorem st_ne11 {args : Array Value} {s : State} (hs : ∀ w ∈ nwL, w.before args s = true) (j : Nat) (hj : j < 16) (h : 11 ≠ j) : (Cond.not (Cond.eq (sTm 11) (sTm j))).before args s = true ∨ (Cond.not (Cond.eq (sTm j) (sTm 11))).before args s = true := by
  match j, hj, h with
  | 0, _, _ => exact Or.inl (hs _ (List.mem_of_getElem? (i := 140) (by decide +kernel)))
  | 1, _, _ => exact Or.inl (hs _ (List.mem_of_getElem? (i := 155) (by decide +kernel)))
  | 2, _, _ => exact Or.inl (hs _ (List.mem_of_getElem? (i := 173) (by decide +kernel)))
  | 3, _, _ => exact Or.inl (hs _ (List.mem_of_getElem? (i := 191) (by decide +kernel)))
  | 4, _, _ => exact Or.inl (hs _ (List.mem_of_getElem? (i := 210) (by decide +kernel)))
  | 5, _, _ => exact Or.inl (hs _ (List.mem_of_getElem? (i := 231) (by decide +kernel)))
  | 6, _, _ => exact Or.inr (hs _ (List.mem_of_getElem? (i := 94) (by decide +kernel)))
  | 7, _, _ => exact Or.inr (hs _ (List.mem_of_getElem? (i := 95) (by decide +kernel)))
  | 8, _, _ => exact Or.inr (hs _ (List.mem_of_getElem? (i := 96) (by decide +kernel)))
  | 9, _, _ => exact Or.inr (hs _ (List.mem_of_getElem? (i := 97) (by decide +kernel)))
  | 10, _, _ => exact Or.inr (hs _ (List.mem_of_getElem? (i := 98) (by decide +kernel)))
  | 11, _, h => exact absurd rfl h
  | 12, _, _ => exact Or.inl (hs _ (List.mem_of_getElem? (i := 111) (by decide +kernel)))
  | 13, _, _ => exact Or.inl (hs _ (List.mem_of_getElem? (i := 251) (by decide +kernel)))
  | 14, _, _ => exact Or.inl (hs _ (List.mem_of_getElem? (i := 273) (by decide +kernel)))
  | 15, _, _ => exact Or.inl (hs _ (List.mem_of_getElem? (i := 125) (by decide +kernel)))
  | k + 16, h, _ => exact absurd h (by omega)
theorem st_ne12 {args : Array Value} {s : State} (hs : ∀ w ∈ nwL, w.before args s = true) (j : Nat) (hj : j < 16) (h : 12 ≠ j) : (Cond.not (Cond.eq (sTm 12) (sTm j))).before args s = true ∨ (Cond.not (Cond.eq (sTm j) (sTm 12))).before args s = true := by
  match j, hj, h with
  | 0, _, _ => exact Or.inl (hs _ (List.mem_of_getElem? (i := 141) (by decide +kernel)))
  | 1, _, _ => exact Or.inl (hs _ (List.mem_of_getElem? (i := 156) (by decide +kernel)))
  | 2, _, _ => exact Or.inl (hs _ (List.mem_of_getElem? (i := 174) (by decide +kernel)))
  | 3, _, _ => exact Or.inl (hs _ (List.mem_of_getElem? (i := 192) (by decide +kernel)))
  | 4, _, _ => exact Or.inl (hs _ (List.mem_of_getElem? (i := 211) (by decide +kernel)))
  | 5, _, _ => exact Or.inl (hs _ (List.mem_of_getElem? (i := 232) (by decide +kernel)))
  | 6, _, _ => exact Or.inr (hs _ (List.mem_of_getElem? (i := 106) (by decide +kernel)))
  | 7, _, _ => exact Or.inr (hs _ (List.mem_of_getElem? (i := 107) (by decide +kernel)))
  | 8, _, _ => exact Or.inr (hs _ (List.mem_of_getElem? (i := 108) (by decide +kernel)))
  | 9, _, _ => exact Or.inr (hs _ (List.mem_of_getElem? (i := 109) (by decide +kernel)))
  | 10, _, _ => exact Or.inr (hs _ (List.mem_of_getElem? (i := 110) (by decide +kernel)))
  | 11, _, _ => exact Or.inr (hs _ (List.mem_of_getElem? (i := 111) (by decide +kernel)))
  | 12, _, h => exact absurd rfl h
  | 13, _, _ => exact Or.inl (hs _ (List.mem_of_getElem? (i := 252) (by decide +kernel)))
  | 14, _, _ => exact Or.inl (hs _ (List.mem_of_getElem? (i := 274) (by decide +kernel)))
  | 15, _, _ => exact Or.inl (hs _ (List.mem_of_getElem? (i := 126) (by decide +kernel)))
  | k + 16, h, _ => exact absurd h (by omega)
theorem st_ne13 {args : Array Value} {s : State} (hs : ∀ w ∈ nwL, w.before args s = true) (j : Nat) (hj : j < 16) (h : 13 ≠ j) : (Cond.not (Cond.eq (sTm 13) (sTm j))).before args s = true ∨ (Cond.not (Cond.eq (sTm j) (sTm 13))).before args s = true := by
  match j, hj, h with
  | 0, _, _ => exact Or.inr (hs _ (List.mem_of_getElem? (i := 254) (by decide +kernel)))
  | 1, _, _ => exact Or.inr (hs _ (List.mem_of_getElem? (i := 255) (by decide +kernel)))
  | 2, _, _ => exact Or.inr (hs _ (List.mem_of_getElem? (i := 256) (by decide +kernel)))
  | 3, _, _ => exact Or.inr (hs _ (List.mem_of_getElem? (i := 257) (by decide +kernel)))
  | 4, _, _ => exact Or.inr (hs _ (List.mem_of_getElem? (i := 258) (by decide +kernel)))
  | 5, _, _ => exact Or.inr (hs _ (List.mem_of_getElem? (i := 259) (by decide +kernel)))
  | 6, _, _ => exact Or.inr (hs _ (List.mem_of_getElem? (i := 246) (by decide +kernel)))
  | 7, _, _ => exact Or.inr (hs _ (List.mem_of_getElem? (i := 247) (by decide +kernel)))
  | 8, _, _ => exact Or.inr (hs _ (List.mem_of_getElem? (i := 248) (by decide +kernel)))
  | 9, _, _ => exact Or.inr (hs _ (List.mem_of_getElem? (i := 249) (by decide +kernel)))
  | 10, _, _ => exact Or.inr (hs _ (List.mem_of_getElem? (i := 250) (by decide +kernel)))
  | 11, _, _ => exact Or.inr (hs _ (List.mem_of_getElem? (i := 251) (by decide +kernel)))
  | 12, _, _ => exact Or.inr (hs _ (List.mem_of_getElem? (i := 252) (by decide +kernel)))
  | 13, _, h => exact absurd rfl h
  | 14, _, _ => exact Or.inl (hs _ (List.mem_of_getElem? (i := 282) (by decide +kernel)))
  | 15, _, _ => exact Or.inr (hs _ (List.mem_of_getElem? (i := 253) (by decide +kernel)))
  | k + 16, h, _ => exact absurd h (by omega)
theorem st_ne14 {args : Array Value} {s : State} (hs : ∀ w ∈ nwL, w.before args s = true) (j : Nat) (hj : j < 16) (h : 14 ≠ j) : (Cond.not (Cond.eq (sTm 14) (sTm j))).before args s = true ∨ (Cond.not (Cond.eq (sTm j) (sTm 14))).before args s = true := by
  match j, hj, h with
  | 0, _, _ => exact Or.inr (hs _ (List.mem_of_getElem? (i := 276) (by decide +kernel)))
  | 1, _, _ => exact Or.inr (hs _ (List.mem_of_getElem? (i := 277) (by decide +kernel)))
  | 2, _, _ => exact Or.inr (hs _ (List.mem_of_getElem? (i := 278) (by decide +kernel)))
  | 3, _, _ => exact Or.inr (hs _ (List.mem_of_getElem? (i := 279) (by decide +kernel)))
  | 4, _, _ => exact Or.inr (hs _ (List.mem_of_getElem? (i := 280) (by decide +kernel)))
  | 5, _, _ => exact Or.inr (hs _ (List.mem_of_getElem? (i := 281) (by decide +kernel)))
  | 6, _, _ => exact Or.inr (hs _ (List.mem_of_getElem? (i := 268) (by decide +kernel)))
  | 7, _, _ => exact Or.inr (hs _ (List.mem_of_getElem? (i := 269) (by decide +kernel)))
  | 8, _, _ => exact Or.inr (hs _ (List.mem_of_getElem? (i := 270) (by decide +kernel)))
  | 9, _, _ => exact Or.inr (hs _ (List.mem_of_getElem? (i := 271) (by decide +kernel)))
  | 10, _, _ => exact Or.inr (hs _ (List.mem_of_getElem? (i := 272) (by decide +kernel)))
  | 11, _, _ => exact Or.inr (hs _ (List.mem_of_getElem? (i := 273) (by decide +kernel)))
  | 12, _, _ => exact Or.inr (hs _ (List.mem_of_getElem? (i := 274) (by decide +kernel)))
  | 13, _, _ => exact Or.inr (hs _ (List.mem_of_getElem? (i := 282) (by decide +kernel)))
  | 14, _, h => exact absurd rfl h
  | 15, _, _ => exact Or.inr (hs _ (List.mem_of_getElem? (i := 275) (by decide +kernel)))
  | k + 16, h, _ => exact absurd h (by omega)
theorem st_ne15 {args : Array Value} {s : State} (hs : ∀ w ∈ nwL, w.before args s = true) (j : Nat) (hj : j < 16) (h : 15 ≠ j) : (Cond.not (Cond.eq (sTm 15) (sTm j))).before args s = true ∨ (Cond.not (Cond.eq (sTm j) (sTm 15))).before args s = true := by
  match j, hj, h with
  | 0, _, _ => exact Or.inl (hs _ (List.mem_of_getElem? (i := 142) (by decide +kernel)))
  | 1, _, _ => exact Or.inl (hs _ (List.mem_of_getElem? (i := 157) (by decide +kernel)))
  | 2, _, _ => exact Or.inl (hs _ (List.mem_of_getElem? (i := 175) (by decide +kernel)))
  | 3, _, _ => exact Or.inl (hs _ (List.mem_of_getElem? (i := 193) (by decide +kernel)))
  | 4, _, _ => exact Or.inl (hs _ (List.mem_of_getElem? (i := 212) (by decide +kernel)))
  | 5, _, _ => exact Or.inl (hs _ (List.mem_of_getElem? (i := 233) (by decide +kernel)))
  | 6, _, _ => exact Or.inr (hs _ (List.mem_of_getElem? (i := 120) (by decide +kernel)))
  | 7, _, _ => exact Or.inr (hs _ (List.mem_of_getElem? (i := 121) (by decide +kernel)))
  | 8, _, _ => exact Or.inr (hs _ (List.mem_of_getElem? (i := 122) (by decide +kernel)))
  | 9, _, _ => exact Or.inr (hs _ (List.mem_of_getElem? (i := 123) (by decide +kernel)))
  | 10, _, _ => exact Or.inr (hs _ (List.mem_of_getElem? (i := 124) (by decide +kernel)))
  | 11, _, _ => exact Or.inr (hs _ (List.mem_of_getElem? (i := 125) (by decide +kernel)))
  | 12, _, _ => exact Or.inr (hs _ (List.mem_of_getElem? (i := 126) (by decide +kernel)))
  | 13, _, _ => exact Or.inl (hs _ (List.mem_of_getElem? (i := 253) (by decide +kernel)))
  | 14, _, _ => exact Or.inl (hs _ (List.mem_of_getElem? (i := 275) (by decide +kernel)))
  | 15, _, h => exact absurd rfl h
  | k + 16, h, _ => exact absurd h (by omega)
theorem st_ne {args : Array Value} {s : State} (hs : ∀ w ∈ nwL, w.before args s = true) (i j : Nat) (hi : i < 16) (hj : j < 16) (h : i ≠ j) : (Cond.not (Cond.eq (sTm i) (sTm j))).before args s = true ∨ (Cond.not (Cond.eq (sTm j) (sTm i))).before args s = true := by
  match i, hi, h with
  | 0, _, h => exact st_ne0 hs j hj h
  | 1, _, h => exact st_ne1 hs j hj h
  | 2, _, h => exact st_ne2 hs j hj h
  | 3, _, h => exact st_ne3 hs j hj h
  | 4, _, h => exact st_ne4 hs j hj h
  | 5, _, h => exact st_ne5 hs j hj h
  | 6, _, h => exact st_ne6 hs j hj h
  | 7, _, h => exact st_ne7 hs j hj h
  | 8, _, h => exact st_ne8 hs j hj h
  | 9, _, h => exact st_ne9 hs j hj h
  | 10, _, h => exact st_ne10 hs j hj h
  | 11, _, h => exact st_ne11 hs j hj h
  | 12, _, h => exact st_ne12 hs j hj h
  | 13, _, h => exact st_ne13 hs j hj h
  | 14, _, h => exact st_ne14 hs j hj h
  | 15, _, h => exact st_ne15 hs j hj h
  | k + 16, h, _ => exact absurd h (by omega)
theorem st_cs {args : Array Value} {s : State} (hs : ∀ w ∈ nwL, w.before args s = true) : (Cond.eq (.static "java/lang/String" "COMPACT_STRINGS" "Z") (.int 1)).before args s = true := hs _ (List.mem_of_getElem? (i := 4) (by decide +kernel))
theorem st_fm {args : Array Value} {s : State} (hs : ∀ w ∈ nwL, w.before args s = true) : (Cond.isRef (.static "jdk/internal/util/Preconditions" "SIOOBE_FORMATTER" "Ljava/util/function/BiFunction;")).before args s = true := hs _ (List.mem_of_getElem? (i := 5) (by decide +kernel))
theorem inst_ok : ∀ q ∈ amCl, Cond.instantiable q.1 q.2.2 ∈ lw_tbl := List.forall_mem_cons.mpr ⟨wd_353, List.forall_mem_cons.mpr ⟨wd_348, List.forall_mem_cons.mpr ⟨wd_373, List.forall_mem_cons.mpr ⟨wd_358, List.forall_mem_cons.mpr ⟨wd_404, List.forall_mem_cons.mpr ⟨wd_343, List.forall_mem_cons.mpr ⟨wd_378, List.forall_mem_cons.mpr ⟨wd_383, List.forall_mem_cons.mpr ⟨wd_368, List.forall_mem_cons.mpr ⟨wd_388, List.forall_mem_cons.mpr ⟨wd_363, List.forall_mem_cons.mpr ⟨wd_1232, List.forall_mem_cons.mpr ⟨wd_1236,  fun _ h => absurd h List.not_mem_nil⟩⟩⟩⟩⟩⟩⟩⟩⟩⟩⟩⟩⟩
theorem ls_cs : Cond.laysStatic "java/lang/String" "COMPACT_STRINGS" "Z" ∈ lw_tbl := List.mem_of_getElem? (i := 519) (by decide +kernel)
theorem ls_fm : Cond.laysStatic "jdk/internal/util/Preconditions" "SIOOBE_FORMATTER" "Ljava/util/function/BiFunction;" ∈ lw_tbl := List.mem_of_getElem? (i := 535) (by decide +kernel)
