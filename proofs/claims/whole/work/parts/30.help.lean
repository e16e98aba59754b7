/-! rows of calls that AM answers itself, of switches -/
def sLen (f : Nat) : Int := ((sBytes.getD (f - 1) []).length : Nat)
def sChar (f : Nat) (i : Int) : Int := (sBytes.getD (f - 1) []).getD i.toNat 0
theorem beq_f {x y : Int} (h : ¬ x = y) : (y == x) = false := by
  rw [beq_eq_false_iff_ne]; exact fun q => h q.symm
section
variable {sc : Nat × (Nat → Int)} {mi pc : Nat} {ls : ALs} {st : List AV} {I : IH} {L : LH} {R : RH} {K : KH} {Q : AQ} {b : ByteArray} {o lm idx : Nat} {nest : Bool} {x1 : Prop} {x y : Int}
theorem mm_call {cmi : Nat} (hm : isMM cmi = true) (hl : mLvl cmi = 0 ∧ mMaxL cmi = 2 ∧ mArgs cmi = 2) (fm : mOwn mi = o ∧ mLvl mi = lm ∧ x1) (hs : cSite o idx = some (cmi, 0, nest)) (h0 : Nat.blt 0 lm = true) (hc : Nat.ble (catS st) 8 = true) : callOf mi idx 0 (aI y :: aI x :: st) K = some (cmi, [aI x, aI y], st) := by
  unfold callOf
  rw [fm.1, hs]
  have hna : naOf cmi 0 = 2 := by unfold naOf; rw [hl.2.2]; rfl
  show (if 0 = 0 ∧ _ then _ else _) = _
  rw [hna, if_pos]
  · rfl
  refine ⟨rfl, ?_, ?_, Nat.le_of_ble_eq_true hc, ?_, Or.inl rfl, recv_st⟩
  · rw [hl.1, fm.2.1]; have := Nat.le_of_ble_eq_true h0; omega
  · show 2 ≤ st.length + 2; omega
  · rw [hl.2.1]; exact Nat.le.refl
theorem e_max (hb : mBytes mi = b) (hd : decode b pc = .ok (.invokestatic idx, 3)) (fm : mOwn mi = o ∧ mLvl mi = lm ∧ x1) (hs : cSite o idx = some (mMax, 0, nest)) (h0 : Nat.blt 0 lm = true) (hc : Nat.ble (catS st) 8 = true) (h : E sc mi (pc + 3) ls (aI (max x y) :: st) I L R K Q) : E sc mi pc ls (aI y :: aI x :: st) I L R K Q := by
  refine e_mm hb hd (by rw [fm.1]; exact (cSite_no hs).1) rfl (mm_call rfl (by decide +kernel) fm hs h0 hc) ?_
  have e : minMax mMax x y = max x y := by
    show (if x < y then y else x) = _
    split <;> omega
  rw [e]; exact h
theorem e_min (hb : mBytes mi = b) (hd : decode b pc = .ok (.invokestatic idx, 3)) (fm : mOwn mi = o ∧ mLvl mi = lm ∧ x1) (hs : cSite o idx = some (mMin, 0, nest)) (h0 : Nat.blt 0 lm = true) (hc : Nat.ble (catS st) 8 = true) (h : E sc mi (pc + 3) ls (aI (min x y) :: st) I L R K Q) : E sc mi pc ls (aI y :: aI x :: st) I L R K Q := by
  refine e_mm hb hd (by rw [fm.1]; exact (cSite_no hs).1) rfl (mm_call rfl (by decide +kernel) fm hs h0 hc) ?_
  have e : minMax mMin x y = min x y := by
    show (if y < x then y else x) = _
    split <;> omega
  rw [e]; exact h
theorem e_slen {f : Nat} {v : Int} (hb : mBytes mi = b) (hd : decode b pc = .ok (.invokevirtual idx, 3)) (fm : mOwn mi = o ∧ mLvl mi = lm ∧ x1) (hs : cSite o idx = some (mLength, 1, nest)) (hp : amPrim mLength [aF f] = some v) (h0 : Nat.blt (mLvl mLength) lm = true) (hc : Nat.ble (catS st) 8 = true) (h : E sc mi (pc + 3) ls (aI v :: st) I L R K Q) : E sc mi pc ls (aF f :: st) I L R K Q := by
  refine e_str (as := [aF f]) hb hd (cmi := mLength) rfl ?_ hp h
  have hna : naOf mLength 1 = 1 := by decide +kernel
  unfold callOf
  rw [fm.1, hs]
  show (if 1 = 1 ∧ _ then _ else _) = _
  rw [hna, if_pos]
  · rfl
  refine ⟨rfl, ?_, ?_, Nat.le_of_ble_eq_true hc, ?_, Or.inr (by decide +kernel), rfl⟩
  · rw [fm.2.1]; have := Nat.le_of_ble_eq_true h0; omega
  · show 1 ≤ st.length + 1; omega
  · show (mkL [aF f]).length ≤ mMaxL mLength
    have : mMaxL mLength = mMaxL mLength := rfl
    exact Nat.le_trans (show 1 ≤ 1 from Nat.le.refl) (by decide +kernel)
theorem e_schar {f : Nat} {i v : Int} (hb : mBytes mi = b) (hd : decode b pc = .ok (.invokevirtual idx, 3)) (fm : mOwn mi = o ∧ mLvl mi = lm ∧ x1) (hs : cSite o idx = some (mCharAt, 1, nest)) (hp : amPrim mCharAt [aF f, aI i] = some v) (h0 : Nat.blt (mLvl mCharAt) lm = true) (hc : Nat.ble (catS st) 8 = true) (h : E sc mi (pc + 3) ls (aI v :: st) I L R K Q) : E sc mi pc ls (aI i :: aF f :: st) I L R K Q := by
  refine e_str (as := [aF f, aI i]) hb hd (cmi := mCharAt) rfl ?_ hp h
  have hna : naOf mCharAt 1 = 2 := by decide +kernel
  unfold callOf
  rw [fm.1, hs]
  show (if 1 = 1 ∧ _ then _ else _) = _
  rw [hna, if_pos]
  · rfl
  refine ⟨rfl, ?_, ?_, Nat.le_of_ble_eq_true hc, ?_, Or.inr (by decide +kernel), rfl⟩
  · rw [fm.2.1]; have := Nat.le_of_ble_eq_true h0; omega
  · show 2 ≤ st.length + 2; omega
  · show (mkL [aF f, aI i]).length ≤ mMaxL mCharAt
    exact Nat.le_trans (show 2 ≤ 2 from Nat.le.refl) (by decide +kernel)
end
