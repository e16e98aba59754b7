/-! E's rows: arithmetic, branches -/
def w32 (x : Int) : Int := (Int32.ofInt x).toInt
def iand (x y : Int) : Int := (Int32.ofInt x &&& Int32.ofInt y).toInt
def ior (x y : Int) : Int := (Int32.ofInt x ||| Int32.ofInt y).toInt
def ixor (x y : Int) : Int := (Int32.ofInt x ^^^ Int32.ofInt y).toInt
def ishl (x y : Int) : Int := (Int32.ofInt x <<< (Int32.ofInt y &&& 31)).toInt
def ishr (x y : Int) : Int := (Int32.ofInt x >>> (Int32.ofInt y &&& 31)).toInt
def iushr (x y : Int) : Int := ((Int32.ofInt x).toUInt32 >>> ((Int32.ofInt y).toUInt32 &&& Int32.toUInt32 31)).toInt32.toInt
def b2i (p : Prop) [Decidable p] : Int := if p then 1 else 0
section
variable {sc : Nat × (Nat → Int)} {mi pc : Nat} {ls : ALs} {st : List AV} {I : IH} {L : LH} {R : RH} {K : KH} {Q : AQ} {b : ByteArray} {x y : Int}
theorem e_bop {i : Instr} {v : Int} (hb : mBytes mi = b) (hd : decode b pc = .ok (i, 1)) (hi : stepL sc mi i 1 pc ls (aI y :: aI x :: st) I L R K = stB i pc ls (aI y :: aI x :: st) I L R K) (hn : insLen i 1 = true) (h2 : isStep i = true) {z : Int32} (hz : bop i (Int32.ofInt x) (Int32.ofInt y) = some z) (hv : z.toInt = v) (h : E sc mi (pc + 1) ls (aI v :: st) I L R K Q) : E sc mi pc ls (aI y :: aI x :: st) I L R K Q := by
  refine e_st (g := (pc + 1, ls, aI v :: st, I, L, R, K)) hb hd hn h2 ?_ h
  rw [hi]
  show (bop i (Int32.ofInt x) (Int32.ofInt y)).map _ = _
  rw [hz, Option.map_some, hv]
theorem e_iadd (hb : mBytes mi = b) (hd : decode b pc = .ok (.iadd, 1)) (hr : -2147483648 ≤ x + y ∧ x + y < 2147483648) (h : E sc mi (pc + 1) ls (aI (x + y) :: st) I L R K Q) : E sc mi pc ls (aI y :: aI x :: st) I L R K Q := e_bop hb hd rfl rfl rfl rfl (w_add hr) h
theorem e_isub (hb : mBytes mi = b) (hd : decode b pc = .ok (.isub, 1)) (hr : -2147483648 ≤ x - y ∧ x - y < 2147483648) (h : E sc mi (pc + 1) ls (aI (x - y) :: st) I L R K Q) : E sc mi pc ls (aI y :: aI x :: st) I L R K Q := e_bop hb hd rfl rfl rfl rfl (w_sub hr) h
theorem e_imul (hb : mBytes mi = b) (hd : decode b pc = .ok (.imul, 1)) (hr : -2147483648 ≤ x * y ∧ x * y < 2147483648) (h : E sc mi (pc + 1) ls (aI (x * y) :: st) I L R K Q) : E sc mi pc ls (aI y :: aI x :: st) I L R K Q := e_bop hb hd rfl rfl rfl rfl (w_mul hr) h
theorem e_iaddw (hb : mBytes mi = b) (hd : decode b pc = .ok (.iadd, 1)) (h : E sc mi (pc + 1) ls (aI (w32 (x + y)) :: st) I L R K Q) : E sc mi pc ls (aI y :: aI x :: st) I L R K Q := e_bop hb hd rfl rfl rfl rfl (by rw [← Int32.ofInt_add]; rfl) h
theorem e_isubw (hb : mBytes mi = b) (hd : decode b pc = .ok (.isub, 1)) (h : E sc mi (pc + 1) ls (aI (w32 (x - y)) :: st) I L R K Q) : E sc mi pc ls (aI y :: aI x :: st) I L R K Q := e_bop hb hd rfl rfl rfl rfl (by rw [← Int32.ofInt_sub]; rfl) h
theorem e_imulw (hb : mBytes mi = b) (hd : decode b pc = .ok (.imul, 1)) (h : E sc mi (pc + 1) ls (aI (w32 (x * y)) :: st) I L R K Q) : E sc mi pc ls (aI y :: aI x :: st) I L R K Q := e_bop hb hd rfl rfl rfl rfl (by rw [← Int32.ofInt_mul]; rfl) h
theorem e_iand (hb : mBytes mi = b) (hd : decode b pc = .ok (.iand, 1)) (h : E sc mi (pc + 1) ls (aI (iand x y) :: st) I L R K Q) : E sc mi pc ls (aI y :: aI x :: st) I L R K Q := e_bop hb hd rfl rfl rfl rfl rfl h
theorem e_ior (hb : mBytes mi = b) (hd : decode b pc = .ok (.ior, 1)) (h : E sc mi (pc + 1) ls (aI (ior x y) :: st) I L R K Q) : E sc mi pc ls (aI y :: aI x :: st) I L R K Q := e_bop hb hd rfl rfl rfl rfl rfl h
theorem e_ixor (hb : mBytes mi = b) (hd : decode b pc = .ok (.ixor, 1)) (h : E sc mi (pc + 1) ls (aI (ixor x y) :: st) I L R K Q) : E sc mi pc ls (aI y :: aI x :: st) I L R K Q := e_bop hb hd rfl rfl rfl rfl rfl h
theorem e_ishl (hb : mBytes mi = b) (hd : decode b pc = .ok (.ishl, 1)) (h : E sc mi (pc + 1) ls (aI (ishl x y) :: st) I L R K Q) : E sc mi pc ls (aI y :: aI x :: st) I L R K Q := e_bop hb hd rfl rfl rfl rfl rfl h
theorem e_ishr (hb : mBytes mi = b) (hd : decode b pc = .ok (.ishr, 1)) (h : E sc mi (pc + 1) ls (aI (ishr x y) :: st) I L R K Q) : E sc mi pc ls (aI y :: aI x :: st) I L R K Q := e_bop hb hd rfl rfl rfl rfl rfl h
theorem e_iushr (hb : mBytes mi = b) (hd : decode b pc = .ok (.iushr, 1)) (h : E sc mi (pc + 1) ls (aI (iushr x y) :: st) I L R K Q) : E sc mi pc ls (aI y :: aI x :: st) I L R K Q := e_bop hb hd rfl rfl rfl rfl rfl h
theorem ofi_eq {x : Int} (h : -2147483648 ≤ x ∧ x < 2147483648) : (Int32.ofInt x).toInt = x := Int32.toInt_ofInt_of_le (by omega) (by omega)
theorem w_div {x y : Int} (h : (0 ≤ x ∧ x < 2147483648) ∧ 0 < y ∧ y < 2147483648) : (Int32.ofInt x / Int32.ofInt y).toInt = x / y := by
  have hx := ofi_eq (x := x) (by omega)
  have hy := ofi_eq (x := y) (by omega)
  rw [Int32.toInt_div_of_ne_right, hx, hy, Int.tdiv_eq_ediv_of_nonneg h.1.1]
  intro q
  have := congrArg Int32.toInt q
  rw [hy] at this
  have q2 : y = -1 := this
  omega
theorem ofi_ne {y : Int} (h : 0 < y ∧ y < 2147483648) : Int32.ofInt y ≠ 0 := by
  intro q
  have := congrArg Int32.toInt q
  rw [ofi_eq (by omega)] at this
  have q2 : y = 0 := this
  omega
theorem e_idiv (hb : mBytes mi = b) (hd : decode b pc = .ok (.idiv, 1)) (hr : (0 ≤ x ∧ x < 2147483648) ∧ 0 < y ∧ y < 2147483648) (h : E sc mi (pc + 1) ls (aI (x / y) :: st) I L R K Q) : E sc mi pc ls (aI y :: aI x :: st) I L R K Q := e_bop hb hd rfl rfl rfl (by show (if Int32.ofInt y = 0 then none else some (Int32.ofInt x / Int32.ofInt y)) = _; rw [if_neg (ofi_ne hr.2)]) (w_div hr) h
theorem w_rem {x y : Int} (h : (0 ≤ x ∧ x < 2147483648) ∧ 0 < y ∧ y < 2147483648) : (Int32.ofInt x - Int32.ofInt x / Int32.ofInt y * Int32.ofInt y).toInt = x % y := by
  have h1 : Int32.ofInt x / Int32.ofInt y = Int32.ofInt (x / y) := by
    apply Int32.toInt_inj.mp
    have h2 : 0 ≤ x / y := Int.ediv_nonneg h.1.1 (by omega)
    have h3 : x / y ≤ x := Int.ediv_le_self _ h.1.1
    rw [w_div h, ofi_eq (by omega)]
  have h2 := Int.mul_ediv_add_emod x y
  have h3 := Int.emod_nonneg x (b := y) (by omega)
  have h4 := Int.emod_lt_of_pos x (b := y) h.2.1
  have h5 : x - x / y * y = x % y := by rw [Int.mul_comm]; omega
  rw [h1, ← Int32.ofInt_mul, ← Int32.ofInt_sub, h5]
  exact ofi_eq (by omega)
theorem e_irem (hb : mBytes mi = b) (hd : decode b pc = .ok (.irem, 1)) (hr : (0 ≤ x ∧ x < 2147483648) ∧ 0 < y ∧ y < 2147483648) (h : E sc mi (pc + 1) ls (aI (x % y) :: st) I L R K Q) : E sc mi pc ls (aI y :: aI x :: st) I L R K Q := e_bop hb hd rfl rfl rfl (by show (if Int32.ofInt y = 0 then none else some (Int32.ofInt x - Int32.ofInt x / Int32.ofInt y * Int32.ofInt y)) = _; rw [if_neg (ofi_ne hr.2)]) (w_rem hr) h
theorem e_i2b (hb : mBytes mi = b) (hd : decode b pc = .ok (.i2b, 1)) (h : E sc mi (pc + 1) ls (aI (Int32.ofInt x).toInt8.toInt32.toInt :: st) I L R K Q) : E sc mi pc ls (aI x :: st) I L R K Q := e_st hb hd rfl rfl rfl h
theorem e_i2s (hb : mBytes mi = b) (hd : decode b pc = .ok (.i2s, 1)) (h : E sc mi (pc + 1) ls (aI (Int32.ofInt x).toInt16.toInt32.toInt :: st) I L R K Q) : E sc mi pc ls (aI x :: st) I L R K Q := e_st hb hd rfl rfl rfl h
theorem e_l2i {z : Int64} (hb : mBytes mi = b) (hd : decode b pc = .ok (.l2i, 1)) (h : E sc mi (pc + 1) ls (aI z.toInt32.toInt :: st) I L R K Q) : E sc mi pc ls (aL z :: st) I L R K Q := e_st hb hd rfl rfl rfl h
theorem e_lcmp {z w : Int64} (hb : mBytes mi = b) (hd : decode b pc = .ok (.lcmp, 1)) (h : E sc mi (pc + 1) ls (aI (lg_cmp z w).toInt :: st) I L R K Q) : E sc mi pc ls (aL w :: aL z :: st) I L R K Q := e_st hb hd rfl rfl rfl h
theorem e_lushr {z : Int64} (hb : mBytes mi = b) (hd : decode b pc = .ok (.lushr, 1)) (h : E sc mi (pc + 1) ls (aL (z.toUInt64 >>> ((Int32.ofInt y).toInt64.toUInt64 &&& Int64.toUInt64 63)).toInt64 :: st) I L R K Q) : E sc mi pc ls (aI y :: aL z :: st) I L R K Q := e_st hb hd rfl rfl rfl h
theorem e_lshl {z : Int64} (hb : mBytes mi = b) (hd : decode b pc = .ok (.lshl, 1)) (h : E sc mi (pc + 1) ls (aL (z <<< ((Int32.ofInt y).toInt64 &&& 63)) :: st) I L R K Q) : E sc mi pc ls (aI y :: aL z :: st) I L R K Q := e_st hb hd rfl rfl rfl h
theorem e_ladd {z w : Int64} (hb : mBytes mi = b) (hd : decode b pc = .ok (.ladd, 1)) (h : E sc mi (pc + 1) ls (aL (z + w) :: st) I L R K Q) : E sc mi pc ls (aL w :: aL z :: st) I L R K Q := e_st hb hd rfl rfl rfl h
theorem e_lsub {z w : Int64} (hb : mBytes mi = b) (hd : decode b pc = .ok (.lsub, 1)) (h : E sc mi (pc + 1) ls (aL (z - w) :: st) I L R K Q) : E sc mi pc ls (aL w :: aL z :: st) I L R K Q := e_st hb hd rfl rfl rfl h
theorem e_land {z w : Int64} (hb : mBytes mi = b) (hd : decode b pc = .ok (.land, 1)) (h : E sc mi (pc + 1) ls (aL (z &&& w) :: st) I L R K Q) : E sc mi pc ls (aL w :: aL z :: st) I L R K Q := e_st hb hd rfl rfl rfl h
theorem e_lor {z w : Int64} (hb : mBytes mi = b) (hd : decode b pc = .ok (.lor, 1)) (h : E sc mi (pc + 1) ls (aL (z ||| w) :: st) I L R K Q) : E sc mi pc ls (aL w :: aL z :: st) I L R K Q := e_st hb hd rfl rfl rfl h
/-! branches -/
theorem e_goto {off : Int} {t : Nat} (hb : mBytes mi = b) (hd : decode b pc = .ok (.goto off, 3)) (hj : jmp pc off = some t) (h : E sc mi t ls st I L R K Q) : E sc mi pc ls st I L R K Q := by
  refine e_st (g := (t, ls, st, I, L, R, K)) hb hd rfl rfl ?_ h
  simp only [stepL, hj, Option.map_some]
theorem e_if {c : Jvm.ClassFile.Cond} {off : Int} {t : Nat} (hb : mBytes mi = b) (hd : decode b pc = .ok (.ifCond c off, 3)) (hj : jmp pc off = some t) (h1 : cmpB c x 0 = true → E sc mi t ls st I L R K Q) (h2 : cmpB c x 0 = false → E sc mi (pc + 3) ls st I L R K Q) : E sc mi pc ls (aI x :: st) I L R K Q := by
  by_cases hc : cmpB c x 0 = true
  · refine e_st (g := (t, ls, st, I, L, R, K)) hb hd rfl rfl ?_ (h1 hc)
    simp only [stepL, hj, if_pos hc]
  · refine e_st (g := (pc + 3, ls, st, I, L, R, K)) hb hd rfl rfl ?_ (h2 (Bool.eq_false_iff.mpr hc))
    simp only [stepL, hj, if_neg hc]
theorem e_icmp {c : Jvm.ClassFile.Cond} {off : Int} {t : Nat} (hb : mBytes mi = b) (hd : decode b pc = .ok (.if_icmp c off, 3)) (hj : jmp pc off = some t) (h1 : cmpB c x y = true → E sc mi t ls st I L R K Q) (h2 : cmpB c x y = false → E sc mi (pc + 3) ls st I L R K Q) : E sc mi pc ls (aI y :: aI x :: st) I L R K Q := by
  by_cases hc : cmpB c x y = true
  · refine e_st (g := (t, ls, st, I, L, R, K)) hb hd rfl rfl ?_ (h1 hc)
    simp only [stepL, hj, if_pos hc]
  · refine e_st (g := (pc + 3, ls, st, I, L, R, K)) hb hd rfl rfl ?_ (h2 (Bool.eq_false_iff.mpr hc))
    simp only [stepL, hj, if_neg hc]
theorem cb_eq : (cmpB .eq x y = true ↔ x = y) ∧ (cmpB .eq x y = false ↔ x ≠ y) := by simp [cmpB]
theorem cb_ne : (cmpB .ne x y = true ↔ x ≠ y) ∧ (cmpB .ne x y = false ↔ x = y) := by simp [cmpB]
theorem cb_lt : (cmpB .lt x y = true ↔ x < y) ∧ (cmpB .lt x y = false ↔ y ≤ x) := by simp [cmpB]
theorem cb_ge : (cmpB .ge x y = true ↔ y ≤ x) ∧ (cmpB .ge x y = false ↔ x < y) := by simp [cmpB]
theorem cb_gt : (cmpB .gt x y = true ↔ y < x) ∧ (cmpB .gt x y = false ↔ x ≤ y) := by simp [cmpB]
theorem cb_le : (cmpB .le x y = true ↔ x ≤ y) ∧ (cmpB .le x y = false ↔ y < x) := by simp [cmpB]
theorem e_ifb_eq {p : Prop} [Decidable p] {off : Int} {t : Nat} (hb : mBytes mi = b) (hd : decode b pc = .ok (.ifCond .eq off, 3)) (hj : jmp pc off = some t) (h : (p → E sc mi (pc + 3) ls st I L R K Q) ∧ (¬p → E sc mi t ls st I L R K Q)) : E sc mi pc ls (aI (b2i p) :: st) I L R K Q := by
  by_cases hp : p
  · refine e_if hb hd hj (fun q => ?_) (fun _ => h.1 hp)
    rw [b2i, if_pos hp] at q; cases q
  · refine e_if hb hd hj (fun _ => h.2 hp) (fun q => ?_)
    rw [b2i, if_neg hp] at q; cases q
theorem e_ifb_ne {p : Prop} [Decidable p] {off : Int} {t : Nat} (hb : mBytes mi = b) (hd : decode b pc = .ok (.ifCond .ne off, 3)) (hj : jmp pc off = some t) (h : (p → E sc mi t ls st I L R K Q) ∧ (¬p → E sc mi (pc + 3) ls st I L R K Q)) : E sc mi pc ls (aI (b2i p) :: st) I L R K Q := by
  by_cases hp : p
  · refine e_if hb hd hj (fun _ => h.1 hp) (fun q => ?_)
    rw [b2i, if_pos hp] at q; cases q
  · refine e_if hb hd hj (fun q => ?_) (fun _ => h.2 hp)
    rw [b2i, if_neg hp] at q; cases q
theorem e_tsw {d : Int} {lo hi : Int} {offs : Array Int} {n : Nat} (hb : mBytes mi = b) (hd : decode b pc = .ok (.tableswitch d lo hi offs, n)) (h1 : (x < lo ∨ hi < x) → ∃ t, jmp pc d = some t ∧ E sc mi t ls st I L R K Q) (h2 : ¬(x < lo ∨ hi < x) → ∃ off t, offs[(x - lo).toNat]? = some off ∧ jmp pc off = some t ∧ E sc mi t ls st I L R K Q) : E sc mi pc ls (aI x :: st) I L R K Q := by
  by_cases hc : x < lo ∨ hi < x
  · obtain ⟨t, hj, h⟩ := h1 hc
    refine e_st (g := (t, ls, st, I, L, R, K)) hb hd rfl rfl ?_ h
    simp only [stepL, if_pos hc, hj, Option.map_some]
  · obtain ⟨off, t, ho, hj, h⟩ := h2 hc
    refine e_st (g := (t, ls, st, I, L, R, K)) hb hd rfl rfl ?_ h
    simp only [stepL, if_neg hc, ho, hj, Option.map_some]
theorem e_lsw {d : Int} {ps : Array (Int × Int)} {n t : Nat} (hb : mBytes mi = b) (hd : decode b pc = .ok (.lookupswitch d ps, n)) (hs : (ps.toList.zip (ps.toList.drop 1)).all (fun (a, next) => a.1 < next.1) = true) (hj : jmp pc (Op.lookupswitch.offset ps.toList d x) = some t) (h : E sc mi t ls st I L R K Q) : E sc mi pc ls (aI x :: st) I L R K Q := by
  refine e_st (g := (t, ls, st, I, L, R, K)) hb hd rfl rfl ?_ h
  simp only [stepL, if_pos hs, hj, Option.map_some]
end
