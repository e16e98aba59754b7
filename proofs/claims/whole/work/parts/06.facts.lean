/-! what holds at every moment of a run: the tables, the fixed objects -/
def isNest : Jvm.Cond → Bool
  | .fieldLinkNest .. => true
  | .methodLinkNest .. => true
  | _ => false
def TW (fx : Nat → Nat) (s : State) : Prop := (∀ w ∈ lw_tbl, goodWord w = true → w.before #[] s = true) ∧ (∀ w ∈ lw_tbl, isNest w = true → va_Nw w s) ∧ va_AO RX4 s ∧ va_AO RX9 s ∧ va_AOA .int s ∧ ∀ (j : Nat) (own : String) (idx : Nat) (tx : String), sTab[j]? = some (own, idx, tx) → vk_R own idx tx (fx (j + 1)) s
theorem va_AOA.moved {t : FieldType} {u U : State} (hvm : u.vm.Alike U.vm) (h : va_AOA t u) : va_AOA t U := by
  have h2 : (Cond.arrayOver (.array t)).before #[] (u.setVm U.vm) = true := by
    rw [Cond.arrayOver_setVmC hvm]
    exact h
  exact h2
theorem TW.warm {fx : Nat → Nat} {s U : State} (hW : s.WarmedH U.vm) (h : TW fx s) : TW fx U := by
  obtain ⟨h1, h2, h3, h4, h5, h6⟩ := h
  refine ⟨fun w hw hg => word_at hW (good_of_word hg) (h1 w hw hg), fun w hw hn => ?_, h3.moved hW.alike, h4.moved hW.alike, h5.moved hW.alike, fun j own idx tx hj => (h6 j own idx tx hj).warm hW⟩
  have hz := h2 w hw hn
  match w, hn with
  | .fieldLinkNest .., _ => exact va_Nw.warmF hW hz
  | .methodLinkNest .., _ => exact va_Nw.warmM hW hz
theorem TW.use {fx : Nat → Nat} {s : State} (h : TW fx s) {w : Jvm.Cond} (hw : w ∈ lw_tbl) (hg : goodWord w = true) (args : Array Value) : w.before args s = true := word_at (State.WarmedH.refl s) (good_of_word hg) (h.1 w hw hg)
def lensS : List Nat := sBytes.map fun b => b.length
def bytsS : List (List Int32) := sBytes.map fun b => b.map Int32.ofInt
def FX (A : Nat → Prop) (fx ax : Nat → Nat) (sc : Nat × (Nat → Int)) (s : State) : Prop := vk_S 16 lensS bytsS (fun j => fx (j + 1)) ax A s s.heap ∧ va_X (fx 0) sc.1 (fun j => Int32.ofInt (sc.2 j)) s s.heap ∧ (fx 0 < s.heap.size ∧ ¬ A (fx 0)) ∧ va_Z "java/lang/String" "COMPACT_STRINGS" "Z" (.int 1) A s s.heap ∧ va_Zq "jdk/internal/util/Preconditions" "SIOOBE_FORMATTER" "Ljava/util/function/BiFunction;" A s s.heap
theorem FX.to {A : Nat → Prop} {fx ax : Nat → Nat} {sc : Nat × (Nat → Int)} {s U : State} {H : Heap} {locs : List Loc} (h : FX A fx ax sc s) (hS : va_S A s.heap H locs) (hH : U.heap = H) (hvm : s.vm.Alike U.vm) : FX A fx ax sc U := by
  obtain ⟨h1, h2, ⟨h3, h3'⟩, h4, h5⟩ := h
  subst hH
  exact ⟨(h1.kept hS.2.1).moved hvm, (h2.kept (hS.2.1 _ h3 h3')).moved hvm, ⟨Nat.lt_of_lt_of_le h3 hS.1, h3'⟩, (va_Z.moved hvm (va_Z.kept h4 hS.2.1)), (va_Zq.moved hvm (va_Zq.kept h5 hS.2.1))⟩
def tysO (ay : Nat → ClassId) : List (ClassId × FieldType) := [(ay 100, .int), (ay 101, .boolean), (ay 102, .long), (ay 103, .object RX4), (ay 104, .object RX9), (ay 105, .array .int)]
/-- all that holds of a method's start -/
def SF (base : Nat) (D : va_G) (ay fx ax : Nat → Nat) (sc : Nat × (Nat → Int)) (s : State) : Prop := TW fx s ∧ va_K D amCl (tysO ay) s ∧ FX (fun q => base ≤ q) fx ax sc s ∧ base ≤ s.heap.size ∧ (sc.1 ≤ 65536 ∧ ∀ j, inR (sc.2 j))
theorem SF.to {base : Nat} {D : va_G} {ay fx ax : Nat → Nat} {sc : Nat × (Nat → Int)} {s U : State} {H : Heap} {locs : List Loc} (h : SF base D ay fx ax sc s) (hS : va_S (fun q => base ≤ q) s.heap H locs) (hH : U.heap = H) (hW : s.WarmedH U.vm) : SF base D ay fx ax sc U :=
  ⟨h.1.warm hW, va_K.moved hW.alike h.2.1, h.2.2.1.to hS hH hW.alike, by rw [hH]; exact Nat.le_trans h.2.2.2.1 hS.1, h.2.2.2.2⟩
/-- AM's world at a moment -/
def Rel (base : Nat) (D : va_G) (ay : Nat → ClassId) (s : State) (am : Nat → Nat) (I : IH) (L : LH) (R : RH) (K : KH) (H : Heap) (locs : List Loc) : Prop := va_P D amCl (wsO ay am I L R K) H ∧ va_D (fun q => base ≤ q) (wsO ay am I L R K) ∧ va_S (fun q => base ≤ q) s.heap H locs
/-- what a frame of method mi is -/
def Ctx (sc : Nat × (Nat → Int)) (base : Nat) (D : va_G) (ay fx ax : Nat → Nat) (mi : Nat) (p : Program) (Rm : Room) (s : State) (m : MethodId) (meth : Method) (c : Code) : Prop := p.tables.exec = Jvm.exec ∧ c.code = mBytes mi ∧ c.maxLocals = mMaxL mi ∧ s.vm.findClass (oName (mOwn mi)) = some m.cls ∧ ((mName mi).name = "<init>" → meth.name = "<init>") ∧ meth.locks = false ∧ (mLvl mi ≤ Rm.frames ∧ 38 * mLvl mi ≤ Rm.locals) ∧ SF base D ay fx ax sc s
section
variable (p : Program) (l : Launch) (e : Env) (Rm : Room) (s : State) (m : MethodId) (args : Array Value) (below : List Frame) (meth : Method) (c : Code) (base : Nat) (D : va_G) (ay fx : Nat → Nat) (nL : Nat)
/-- a step: who goes on from the next state goes on from this -/
def StepS (pc : Nat) (ls : ALs) (st : List AV) (I : IH) (L : LH) (R : RH) (K : KH) (g : ACfg) : Prop := ∀ (am : Nat → Nat) (H : Heap) (locs : List Loc) (cells slots : Nat) (lc : Array Slot) (Q : State → Prop), Rel base D ay s am I L R K H locs → LRel am fx lc nL ls → cells + (g.2.2.2.2.2.2.2.2.1 - K.2.2.1) ≤ Rm.cells → slots + (g.2.2.2.2.2.2.2.2.2 - K.2.2.2) ≤ Rm.slots → (∀ (am1 : Nat → Nat) (H1 : Heap) (locs1 : List Loc) (lc1 : Array Slot), (∀ a, a < K.2.2.1 → am1 a = am a) → Rel base D ay s am1 g.2.2.2.1 g.2.2.2.2.1 g.2.2.2.2.2.1 g.2.2.2.2.2.2 H1 locs1 → LRel am1 fx lc1 nL g.2.1 → W p l e Rm s m args below meth c H1 locs1 (cells + (g.2.2.2.2.2.2.2.2.1 - K.2.2.1)) (slots + (g.2.2.2.2.2.2.2.2.2 - K.2.2.2)) Q (F0 m g.1 lc1 (g.2.2.1.map (cv am1 fx)))) → W p l e Rm s m args below meth c H locs cells slots Q (F0 m pc lc (st.map (cv am fx)))
end
section
variable {p : Program} {l : Launch} {e : Env} {Rm : Room} {s : State} {m : MethodId} {args : Array Value} {below : List Frame} {meth : Method} {c : Code} {base : Nat} {D : va_G} {ay fx : Nat → Nat} {nL : Nat}
theorem StepS.pure {pc : Nat} {ls : ALs} {st : List AV} {I : IH} {L : LH} {R : RH} {K : KH} {pc1 : Nat} {ls1 : ALs} {st1 : List AV} (h : ∀ (am : Nat → Nat) (H : Heap) (locs : List Loc) (cells slots : Nat) (lc : Array Slot) (Q : State → Prop), Rel base D ay s am I L R K H locs → LRel am fx lc nL ls → (∀ lc1 : Array Slot, LRel am fx lc1 nL ls1 → W p l e Rm s m args below meth c H locs cells slots Q (F0 m pc1 lc1 (st1.map (cv am fx)))) → W p l e Rm s m args below meth c H locs cells slots Q (F0 m pc lc (st.map (cv am fx)))) : StepS p l e Rm s m args below meth c base D ay fx nL pc ls st I L R K (pc1, ls1, st1, I, L, R, K) := by
  intro am H locs cells slots lc Q hr hl h1 h2 kk
  refine h am H locs cells slots lc Q hr hl fun lc1 hl1 => ?_
  have hk := kk am H locs lc1 (fun _ _ => rfl) hr hl1
  simpa only [Nat.sub_self, Nat.add_zero] using hk
/-- a write: the cells' number stays -/
theorem StepS.write {pc : Nat} {ls : ALs} {st : List AV} {I I1 : IH} {L L1 : LH} {R R1 : RH} {K : KH} {pc1 : Nat} {st1 : List AV} (h : ∀ (am : Nat → Nat) (H : Heap) (locs : List Loc) (cells slots : Nat) (lc : Array Slot) (Q : State → Prop), Rel base D ay s am I L R K H locs → LRel am fx lc nL ls → (∀ (H1 : Heap) (locs1 : List Loc), Rel base D ay s am I1 L1 R1 K H1 locs1 → W p l e Rm s m args below meth c H1 locs1 cells slots Q (F0 m pc1 lc (st1.map (cv am fx)))) → W p l e Rm s m args below meth c H locs cells slots Q (F0 m pc lc (st.map (cv am fx)))) : StepS p l e Rm s m args below meth c base D ay fx nL pc ls st I L R K (pc1, ls, st1, I1, L1, R1, K) := by
  intro am H locs cells slots lc Q hr hl h1 h2 kk
  refine h am H locs cells slots lc Q hr hl fun H1 locs1 hr1 => ?_
  have hk := kk am H1 locs1 lc (fun _ _ => rfl) hr1 hl
  simpa only [Nat.sub_self, Nat.add_zero] using hk
theorem cv_int (am : Nat → Nat) (z : Int32) : cv am fx (aI z.toInt) = .int z := congrArg Value.int (ofInt_toInt z)
theorem jmp_spec {pc : Nat} {off : Int} {t : Nat} (h : jmp pc off = some t) : (pc : Int) + off = (t : Int) := by
  unfold jmp at h
  split at h
  · cases h
    omega
  · cases h
theorem lt_ofInt {x y : Int} (hx : inR x) (hy : inR y) : Int32.ofInt x < Int32.ofInt y ↔ x < y := by
  rw [Int32.lt_iff_toInt_lt, hx, hy]
theorem eq_ofInt {x y : Int} (hx : inR x) (hy : inR y) : Int32.ofInt x = Int32.ofInt y ↔ x = y := by
  rw [← Int32.toInt_inj, hx, hy]
theorem le_ofInt {x y : Int} (hx : inR x) (hy : inR y) : Int32.ofInt x ≤ Int32.ofInt y ↔ x ≤ y := by
  rw [Int32.le_iff_toInt_le, hx, hy]
theorem inR0 : inR 0 := by unfold inR; decide
theorem clamp_ofInt {i : Int} (hi : inR i) : (Int32.ofInt i).toNatClampNeg = i.toNat := by
  show (Int32.ofInt i).toInt.toNat = _
  rw [hi]
theorem in_ofInt {i : Int} {n : Nat} (hi : inR i) (h : inRow i n = true) : vp_in (Int32.ofInt i) n := by
  unfold inRow at h
  simp only [Bool.and_eq_true, decide_eq_true_eq] at h
  refine vp_in_iff.mpr ?_
  rw [hi]
  exact h
end
