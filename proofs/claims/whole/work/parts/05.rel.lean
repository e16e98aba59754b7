/-! AM against the machine: values, locals, the world -/
def inR (x : Int) : Prop := (Int32.ofInt x).toInt = x
theorem inR_toInt (x : Int32) : inR x.toInt := by
  unfold inR
  rw [Int32.ofInt_toInt]
theorem ofInt_toInt (x : Int32) : Int32.ofInt x.toInt = x := Int32.ofInt_toInt x
def okV (sz : Nat) (v : AV) : Prop := match v with
  | .inl x => inR x
  | .inr (.inl (some a)) => a < sz
  | _ => True
theorem okV_mono {a b : Nat} (h : a ≤ b) {v : AV} (hv : okV a v) : okV b v := by
  match v, hv with
  | .inl x, hv => exact hv
  | .inr (.inl none), _ => trivial
  | .inr (.inl (some x)), hv => exact Nat.lt_of_lt_of_le hv h
  | .inr (.inr (.inl y)), _ => trivial
  | .inr (.inr (.inr y)), _ => trivial
/-- what holds of AM's heap at any time -/
def AMwf (I : IH) (L : LH) (R : RH) (K : KH) : Prop := (∀ a i, inR (I a i)) ∧ (∀ a i r, R a i = some r → r < K.2.2.1) ∧ (∀ a, K.1 a < 200 → a < K.2.2.1) ∧ (∀ a i, K.2.2.1 ≤ a → I a i = 0 ∧ L a i = 0 ∧ R a i = none) ∧ (∀ a, K.2.1 a ≤ 65536)
def okS (sz : Nat) (st : List AV) : Prop := ∀ v ∈ st, okV sz v
def okL (sz : Nat) (ls : ALs) : Prop := ∀ v, some v ∈ ls → okV sz v
/-- a value of AM as the machine has it -/
def cv (am fx : Nat → Nat) (v : AV) : Value := match v with
  | .inl x => .int (Int32.ofInt x)
  | .inr (.inl none) => .null
  | .inr (.inl (some a)) => .ref (am a)
  | .inr (.inr (.inl y)) => .long y
  | .inr (.inr (.inr j)) => .ref (fx j)
theorem cv_cat1 {am fx : Nat → Nat} {v : AV} (h : isLng v = false) : (cv am fx v).category = 1 := by
  match v, h with
  | .inl x, _ => rfl
  | .inr (.inl none), _ => rfl
  | .inr (.inl (some a)), _ => rfl
  | .inr (.inr (.inl y)), h => cases h
  | .inr (.inr (.inr j)), _ => rfl
theorem cv_cat (am fx : Nat → Nat) (v : AV) : (cv am fx v).category = catA v := by
  match v with
  | .inl x => rfl
  | .inr (.inl none) => rfl
  | .inr (.inl (some a)) => rfl
  | .inr (.inr (.inl y)) => rfl
  | .inr (.inr (.inr j)) => rfl
theorem cv_congr {am am' fx : Nat → Nat} {sz : Nat} (h : ∀ a, a < sz → am' a = am a) {v : AV} (hv : okV sz v) : cv am' fx v = cv am fx v := by
  match v, hv with
  | .inl x, hv => rfl
  | .inr (.inl none), _ => rfl
  | .inr (.inl (some x)), hv => exact congrArg Value.ref (h x hv)
  | .inr (.inr (.inl y)), _ => rfl
  | .inr (.inr (.inr y)), _ => rfl
theorem cvs_congr {am am' fx : Nat → Nat} {sz : Nat} (h : ∀ a, a < sz → am' a = am a) {st : List AV} (hv : okS sz st) : st.map (cv am' fx) = st.map (cv am fx) :=
  List.map_congr_left fun v hm => cv_congr h (hv v hm)
/-! locals -/
def LRel (am fx : Nat → Nat) (lc : Array Slot) (nL : Nat) (ls : ALs) : Prop := lc.size = nL ∧ ls.length = nL ∧ lv_wf lc ∧ ∀ (k : Nat) (v : AV), ls[k]? = some (some v) → lc[k]? = some (.val (cv am fx v))
theorem aget_some {ls : ALs} {k : Nat} {v : AV} (h : aget ls k = some v) : ls[k]? = some (some v) := by
  unfold aget at h
  cases h2 : ls[k]? with
  | none => rw [h2] at h; cases h
  | some o => rw [h2] at h; simp at h; rw [h]
theorem LRel.get {am fx : Nat → Nat} {lc : Array Slot} {nL : Nat} {ls : ALs} (h : LRel am fx lc nL ls) {k : Nat} {v : AV} (hv : aget ls k = some v) : lc[k]? = some (.val (cv am fx v)) := h.2.2.2 k v (aget_some hv)
theorem LRel.congr {am am' fx : Nat → Nat} {sz : Nat} (hc : ∀ a, a < sz → am' a = am a) {lc : Array Slot} {nL : Nat} {ls : ALs} (hl : okL sz ls) (h : LRel am fx lc nL ls) : LRel am' fx lc nL ls := by
  refine ⟨h.1, h.2.1, h.2.2.1, fun k v hv => ?_⟩
  rw [h.2.2.2 k v hv, cv_congr hc (hl v (List.mem_of_getElem? hv))]
/-- the known locals, as the kit has them -/
def encL (am fx : Nat → Nat) (ls : ALs) : List (Nat × Value) := (List.range ls.length).filterMap fun k => (aget ls k).map fun v => (k, cv am fx v)
theorem encL_mem {am fx : Nat → Nat} {ls : ALs} {k : Nat} {v : AV} (h : ls[k]? = some (some v)) : (k, cv am fx v) ∈ encL am fx ls := by
  refine List.mem_filterMap.mpr ⟨k, List.mem_range.mpr (List.getElem?_eq_some_iff.mp h).1, ?_⟩
  simp [aget, h]
theorem LRel.has {am fx : Nat → Nat} {lc : Array Slot} {nL : Nat} {ls : ALs} (h : LRel am fx lc nL ls) : lv_has lc nL (encL am fx ls) := by
  refine ⟨h.1, h.2.2.1, fun q hq => ?_⟩
  obtain ⟨k, hk, hq⟩ := List.mem_filterMap.mp hq
  cases hg : aget ls k with
  | none => rw [hg] at hq; cases hq
  | some v =>
    rw [hg] at hq
    cases hq
    exact h.get hg
theorem lng_cat {am fx : Nat → Nat} {v : AV} (h : (cv am fx v).category = 2) : isLng v = true := by
  cases e : isLng v with
  | true => rfl
  | false => rw [cv_cat1 e] at h; cases h
theorem LRel.set {am fx : Nat → Nat} {lc lc' : Array Slot} {nL : Nat} {ls ls' : ALs} {k : Nat} {v : AV} (h : LRel am fx lc nL ls) (hs : aset ls k v = some ls') (h' : lv_has lc' nL ((k, cv am fx v) :: (encL am fx ls).filter (fun q => !(q.1 == k) && !(q.1 + 1 == k && q.2.category == 2)))) : LRel am fx lc' nL ls' := by
  unfold aset at hs
  split at hs
  case isFalse => cases hs
  case isTrue hc =>
    obtain ⟨hk, hb⟩ := hc
    cases hs
    refine ⟨h'.1, by rw [List.length_set]; exact h.2.1, h'.2.1, fun j w hj => ?_⟩
    by_cases e : j = k
    · subst e
      rw [List.getElem?_set_self hk] at hj
      cases hj
      exact h'.2.2 (j, cv am fx v) List.mem_cons_self
    · rw [List.getElem?_set_ne (fun q => e q.symm)] at hj
      refine h'.2.2 (j, cv am fx w) (List.mem_cons_of_mem _ (List.mem_filter.mpr ⟨encL_mem hj, ?_⟩))
      have e1 : (j == k) = false := by simp [e]
      simp only [e1, Bool.not_false, Bool.true_and, Bool.not_eq_true', Bool.and_eq_false_iff, beq_eq_false_iff_ne, ne_eq]
      by_cases e2 : j + 1 = k
      · right
        intro hcat
        subst e2
        have hl := lng_cat hcat
        simp [okBefore, aget, hj, hl] at hb
      · exact Or.inl e2
theorem LRel.set2 {am fx : Nat → Nat} {lc lc' : Array Slot} {nL : Nat} {ls ls' : ALs} {k : Nat} {v : AV} (h : LRel am fx lc nL ls) (hs : aset2 ls k v = some ls') (h' : lv_has lc' nL ((k, cv am fx v) :: (encL am fx ls).filter (fun q => !(q.1 == k) && (!(q.1 == k + 1) && !(q.1 + 1 == k && q.2.category == 2))))) : LRel am fx lc' nL ls' := by
  unfold aset2 at hs
  split at hs
  case isFalse => cases hs
  case isTrue hc =>
    obtain ⟨hk, hb⟩ := hc
    cases hs
    refine ⟨h'.1, by rw [List.length_set, List.length_set]; exact h.2.1, h'.2.1, fun j w hj => ?_⟩
    by_cases e3 : j = k + 1
    · subst e3
      rw [List.getElem?_set_self (by rw [List.length_set]; exact hk)] at hj
      cases hj
    rw [List.getElem?_set_ne (fun q => e3 q.symm)] at hj
    by_cases e : j = k
    · subst e
      rw [List.getElem?_set_self (by omega)] at hj
      cases hj
      exact h'.2.2 (j, cv am fx v) List.mem_cons_self
    · rw [List.getElem?_set_ne (fun q => e q.symm)] at hj
      refine h'.2.2 (j, cv am fx w) (List.mem_cons_of_mem _ (List.mem_filter.mpr ⟨encL_mem hj, ?_⟩))
      have e1 : (j == k) = false := by simp [e]
      have e4 : (j == k + 1) = false := by simp [e3]
      simp only [e1, e4, Bool.not_false, Bool.true_and, Bool.not_eq_true', Bool.and_eq_false_iff, beq_eq_false_iff_ne, ne_eq]
      by_cases e2 : j + 1 = k
      · right
        intro hcat
        subst e2
        have hl := lng_cat hcat
        simp [okBefore, aget, hj, hl] at hb
      · exact Or.inl e2
/-! the world -/
def fval (am : Nat → Nat) (I : IH) (R : RH) (ci a k : Nat) : Value := match fKind ci k with
  | 2 => va_rf ((R a k).map am)
  | _ => .int (Int32.ofInt (I a k))
def cellO (ay : Nat → ClassId) (am : Nat → Nat) (I : IH) (L : LH) (R : RH) (K : KH) (a : Nat) : va_E :=
  if K.1 a < 100 then .inr (K.1 a, (List.range (nFld (K.1 a))).map fun k => fval am I R (K.1 a) a k)
  else if K.1 a < 102 then .inl (ay (K.1 a), K.2.1 a, .inl fun i => Int32.ofInt (I a i))
  else if K.1 a = 102 then .inl (ay (K.1 a), K.2.1 a, .inr (.inl fun i => L a i))
  else .inl (ay (K.1 a), K.2.1 a, .inr (.inr (.inr (.inr fun i => (R a i).map am))))
def wsO (ay : Nat → ClassId) (am : Nat → Nat) (I : IH) (L : LH) (R : RH) (K : KH) : va_W := (List.range K.2.2.1).map fun a => (am a, cellO ay am I L R K a)
theorem wsO_get {ay : Nat → ClassId} {am : Nat → Nat} {I : IH} {L : LH} {R : RH} {K : KH} {a : Nat} (h : a < K.2.2.1) : (wsO ay am I L R K)[a]? = some (am a, cellO ay am I L R K a) := by
  unfold wsO
  rw [List.getElem?_map, List.getElem?_range h]
  rfl
theorem wsO_set {ay : Nat → ClassId} {am : Nat → Nat} {I I' : IH} {L L' : LH} {R R' : RH} {K : KH} {a : Nat} {e : va_E} (ha : a < K.2.2.1) (ho : ∀ b, b ≠ a → cellO ay am I' L' R' K b = cellO ay am I L R K b) (he : cellO ay am I' L' R' K a = e) : (wsO ay am I L R K).set a (am a, e) = wsO ay am I' L' R' K := by
  apply List.ext_getElem?
  intro j
  by_cases hj : j < K.2.2.1
  · rw [wsO_get hj]
    by_cases e1 : j = a
    · subst e1
      rw [List.getElem?_set_self (by simp [wsO, hj]), he]
    · rw [List.getElem?_set_ne (fun q => e1 q.symm), wsO_get hj, ho j e1]
  · rw [List.getElem?_eq_none (by simp [wsO]; omega), List.getElem?_eq_none (by simp [wsO]; omega)]
theorem cellO_congr {ay : Nat → ClassId} {am am' : Nat → Nat} {I : IH} {L : LH} {R : RH} {K K' : KH} {a : Nat} (hR : ∀ i r, R a i = some r → am' r = am r) (h1 : K'.1 a = K.1 a) (h2 : K'.2.1 a = K.2.1 a) : cellO ay am' I L R K' a = cellO ay am I L R K a := by
  have hm : ∀ i, (R a i).map am' = (R a i).map am := fun i => by
    cases h : R a i with
    | none => rfl
    | some r => simp [hR i r h]
  unfold cellO fval
  simp only [h1, h2, hm]
theorem wsO_push {ay : Nat → ClassId} {am : Nat → Nat} {I : IH} {L : LH} {R : RH} {K : KH} (q kind len : Nat) (e : va_E) (hw : AMwf I L R K) (he : cellO ay (up1 am K.2.2.1 q) I L R (amAlloc K kind len) K.2.2.1 = e) : wsO ay am I L R K ++ [(q, e)] = wsO ay (up1 am K.2.2.1 q) I L R (amAlloc K kind len) := by
  unfold wsO
  show _ = (List.range (K.2.2.1 + 1)).map _
  rw [List.range_succ, List.map_append]
  congr 1
  · apply List.map_congr_left
    intro a ha
    have ha := List.mem_range.mp ha
    have e1 : cellO ay (up1 am K.2.2.1 q) I L R (amAlloc K kind len) a = cellO ay am I L R K a :=
      cellO_congr (fun i r h => if_neg (Nat.ne_of_lt (hw.2.1 a i r h))) (show up1 K.1 K.2.2.1 kind a = K.1 a from if_neg (Nat.ne_of_lt ha)) (show up1 K.2.1 K.2.2.1 len a = K.2.1 a from if_neg (Nat.ne_of_lt ha))
    rw [e1, show up1 am K.2.2.1 q a = am a from if_neg (Nat.ne_of_lt ha)]
  · rw [List.map_cons, List.map_nil, he]
    rw [show up1 am K.2.2.1 q K.2.2.1 = q from if_pos rfl]
