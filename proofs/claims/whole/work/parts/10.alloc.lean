/-! the steps that make cells; arraylength -/
theorem up1_lt {am : Nat → Nat} {k q a : Nat} (h : a < k) : up1 am k q a = am a := if_neg (Nat.ne_of_lt h)
section
variable {p : Program} {l : Launch} {e : Env} {Rm : Room} {s : State} {m : MethodId} {args : Array Value} {below : List Frame} {meth : Method} {c : Code} {base : Nat} {D : va_G} {ay fx ax : Nat → Nat} {sc : Nat × (Nat → Int)} {mi n pc : Nat} {ls : ALs} {st : List AV} {I : IH} {L : LH} {R : RH} {K : KH} {g : ACfg}
/-- a new cell -/
theorem StepS.alloc {nL kind len pc1 : Nat} {rest : List AV} (hst : okS K.2.2.1 rest) (hls : okL K.2.2.1 ls) (h : ∀ (am : Nat → Nat) (H : Heap) (locs : List Loc) (cells slots : Nat) (lc : Array Slot) (Q : State → Prop), Rel base D ay s am I L R K H locs → LRel am fx lc nL ls → cells + 1 ≤ Rm.cells → slots + len ≤ Rm.slots → (∀ (q : Nat) (H1 : Heap), Rel base D ay s (up1 am K.2.2.1 q) I L R (amAlloc K kind len) H1 locs → W p l e Rm s m args below meth c H1 locs (cells + 1) (slots + len) Q (F0 m pc1 lc (.ref q :: rest.map (cv am fx)))) → W p l e Rm s m args below meth c H locs cells slots Q (F0 m pc lc (st.map (cv am fx)))) : StepS p l e Rm s m args below meth c base D ay fx nL pc ls st I L R K (pc1, ls, aR (some K.2.2.1) :: rest, I, L, R, amAlloc K kind len) := by
  intro am H locs cells slots lc Q hr hl h1 h2 kk
  have e1 : (amAlloc K kind len).2.2.1 - K.2.2.1 = 1 := by show K.2.2.1 + 1 - K.2.2.1 = 1; omega
  have e2 : (amAlloc K kind len).2.2.2 - K.2.2.2 = len := by show K.2.2.2 + len - K.2.2.2 = len; omega
  simp only [e1, e2] at h1 h2 kk
  refine h am H locs cells slots lc Q hr hl h1 h2 fun q H1 hr1 => ?_
  have hag : ∀ a, a < K.2.2.1 → up1 am K.2.2.1 q a = am a := fun a ha => up1_lt ha
  have hk := kk (up1 am K.2.2.1 q) H1 locs lc hag hr1 (hl.congr hag hls)
  have e3 : (aR (some K.2.2.1) :: rest).map (cv (up1 am K.2.2.1 q) fx) = .ref q :: rest.map (cv am fx) := by
    rw [List.map_cons, cvs_congr hag hst]
    show Value.ref (up1 am K.2.2.1 q K.2.2.1) :: _ = _
    rw [show up1 am K.2.2.1 q K.2.2.1 = q from if_pos rfl]
  rw [e3] at hk
  exact hk
theorem al_kind {kind len : Nat} : (amAlloc K kind len).1 K.2.2.1 = kind := if_pos rfl
theorem al_len {kind len : Nat} : (amAlloc K kind len).2.1 K.2.2.1 = len := if_pos rfl
theorem fresh_I (hw : AMwf I L R K) : (fun i => Int32.ofInt (I K.2.2.1 i)) = fun _ => (0 : Int32) := by
  funext i
  rw [(hw.2.2.2.1 K.2.2.1 i (Nat.le_refl _)).1]
  rfl
theorem fresh_L (hw : AMwf I L R K) : (fun i => L K.2.2.1 i) = fun _ => (0 : Int64) := by
  funext i
  exact (hw.2.2.2.1 K.2.2.1 i (Nat.le_refl _)).2.1
theorem fresh_R (hw : AMwf I L R K) (am : Nat → Nat) : (fun i => (R K.2.2.1 i).map am) = fun _ => (none : Option Nat) := by
  funext i
  rw [(hw.2.2.2.1 K.2.2.1 i (Nat.le_refl _)).2.2]
  rfl
/-- a world with one cell more -/
theorem Rel.push {am : Nat → Nat} {H1 : Heap} {locs : List Loc} {q kind len : Nat} {ev : va_E} (hw : AMwf I L R K) (he : cellO ay (up1 am K.2.2.1 q) I L R (amAlloc K kind len) K.2.2.1 = ev) (hP : va_P D amCl (wsO ay am I L R K ++ [(q, ev)]) H1) (hD : va_D (fun q => base ≤ q) (wsO ay am I L R K ++ [(q, ev)])) (hS : va_S (fun q => base ≤ q) s.heap H1 locs) : Rel base D ay s (up1 am K.2.2.1 q) I L R (amAlloc K kind len) H1 locs := by
  rw [wsO_push q kind len ev hw he] at hP hD
  exact ⟨hP, hD, hS⟩
theorem nat_ofInt {i : Int} (h0 : 0 ≤ i) (h1 : i ≤ 65536) : ¬ Int32.ofInt i < 0 ∧ (Int32.ofInt i).toNatClampNeg = i.toNat := by
  have hi : inR i := by
    unfold inR
    rw [Int32.toInt_ofInt]
    unfold Int.bmod
    simp only [show Int32.size = 4294967296 from rfl]
    omega
  refine ⟨fun h => ?_, clamp_ofInt hi⟩
  have := (lt_ofInt hi inR0).mp h
  omega
set_option maxHeartbeats 4000000 in
theorem s_newarray {t : ArrayType} (C : Ctx sc base D ay fx ax mi p Rm s m meth c) (hd : decode (mBytes mi) pc = .ok (.newarray t, n)) (hn : insLen (.newarray t) n = true) (hw : AMwf I L R K) (hst : okS K.2.2.1 st) (hls : okL K.2.2.1 ls) (h : stepL sc mi (.newarray t) n pc ls st I L R K = some g) : StepS p l e Rm s m args below meth c base D ay fx (mMaxL mi) pc ls st I L R K g := by
  obtain rfl : n = 2 := by simpa [insLen] using hn
  simp only [stepL] at h
  split at h
  case h_2 => cases h
  case h_1 z r =>
    split at h
    case h_2 => cases h
    case h_1 kind hkind =>
      split at h
      case isFalse => cases h
      case isTrue hz =>
        cases h
        obtain ⟨hz1, hz2⟩ := nat_ofInt hz.1 hz.2
        have hK := C.2.2.2.2.2.2.2.2.1
        have hT := C.2.2.2.2.2.2.2.1
        refine StepS.alloc (fun v hv => hst v (List.mem_cons_of_mem _ hv)) hls fun am H locs cells slots lc Q hr hl h1 h2 kk => ?_
        have hA : ∀ q, s.heap.size ≤ q → base ≤ q := fun q hq => Nat.le_trans C.2.2.2.2.2.2.2.2.2.2.1 hq
        cases t <;> first | (cases hkind; done) | skip
        case boolean =>
          cases hkind
          refine va_newa (D := D) (cl := amCl) (tys := tysO ay) (atype := .boolean) (a0 := (z.toNat, .inl fun _ => 0)) C.1 C.2.1 (hT.use arr_ok.2.1 rfl args) rfl hK hr.1 hr.2.1 hr.2.2 hA (fun _ => rfl) hz1 hz2 (by show z.toNat * 1 ≤ 536870912; omega) h1 h2 hd fun q cA H1 hK1 hP hD hS => kk q H1 ?_
          have hcA : cA = ay 101 := Option.some.inj ((hK1.2 6 (cA, .boolean) rfl).2.symm.trans (hK.2 1 _ rfl).2)
          subst hcA
          refine Rel.push hw ?_ hP hD hS
          rw [cell_Z (al_kind (K := K)), al_len, fresh_I hw]
        case int =>
          cases hkind
          refine va_newa (D := D) (cl := amCl) (tys := tysO ay) (atype := .int) (a0 := (z.toNat, .inl fun _ => 0)) C.1 C.2.1 (hT.use arr_ok.1 rfl args) rfl hK hr.1 hr.2.1 hr.2.2 hA (fun _ => rfl) hz1 hz2 (by show z.toNat * 4 ≤ 536870912; omega) h1 h2 hd fun q cA H1 hK1 hP hD hS => kk q H1 ?_
          have hcA : cA = ay 100 := Option.some.inj ((hK1.2 6 (cA, .int) rfl).2.symm.trans (hK.2 0 _ rfl).2)
          subst hcA
          refine Rel.push hw ?_ hP hD hS
          rw [cell_I (al_kind (K := K)), al_len, fresh_I hw]
        case long =>
          cases hkind
          refine va_newa (D := D) (cl := amCl) (tys := tysO ay) (atype := .long) (a0 := (z.toNat, .inr (.inl fun _ => 0))) C.1 C.2.1 (hT.use arr_ok.2.2.1 rfl args) rfl hK hr.1 hr.2.1 hr.2.2 hA (fun _ => rfl) hz1 hz2 (by show z.toNat * 8 ≤ 536870912; omega) h1 h2 hd fun q cA H1 hK1 hP hD hS => kk q H1 ?_
          have hcA : cA = ay 102 := Option.some.inj ((hK1.2 6 (cA, .long) rfl).2.symm.trans (hK.2 2 _ rfl).2)
          subst hcA
          refine Rel.push hw ?_ hP hD hS
          rw [cell_L (al_kind (K := K)), al_len, fresh_L hw]
set_option maxHeartbeats 4000000 in
theorem s_anewarray {idx : Nat} (C : Ctx sc base D ay fx ax mi p Rm s m meth c) (hd : decode (mBytes mi) pc = .ok (.anewarray idx, n)) (hn : insLen (.anewarray idx) n = true) (hw : AMwf I L R K) (hst : okS K.2.2.1 st) (hls : okL K.2.2.1 ls) (h : stepL sc mi (.anewarray idx) n pc ls st I L R K = some g) : StepS p l e Rm s m args below meth c base D ay fx (mMaxL mi) pc ls st I L R K g := by
  obtain rfl : n = 3 := by simpa [insLen] using hn
  simp only [stepL] at h
  split at h
  case h_2 => cases h
  case h_1 z r =>
    split at h
    case h_2 => cases h
    case h_1 kind hkind =>
      split at h
      case isFalse => cases h
      case isTrue hz =>
        cases h
        obtain ⟨hz1, hz2⟩ := nat_ofInt hz.1 hz.2
        have hK := C.2.2.2.2.2.2.2.2.1
        have hT := C.2.2.2.2.2.2.2.1
        refine StepS.alloc (fun v hv => hst v (List.mem_cons_of_mem _ hv)) hls fun am H locs cells slots lc Q hr hl h1 h2 kk => ?_
        have hA : ∀ q, s.heap.size ≤ q → base ≤ q := fun q hq => Nat.le_trans C.2.2.2.2.2.2.2.2.2.2.1 hq
        rcases aSite_spec hkind with ⟨rfl, hl1⟩ | ⟨rfl, hl1⟩
        · refine va_newq (D := D) (cl := amCl) (tys := tysO ay) (C := RX4) C.1 C.2.1 C.2.2.2.1 (hT.use hl1 rfl args) hT.2.2.1 hK hr.1 hr.2.1 hr.2.2 hA hz1 hz2 (by omega) h1 h2 hd fun q cA H1 hK1 hP hD hS => kk q H1 ?_
          obtain ⟨_, _, -, -, -, f1⟩ := (hK1.2 6 (cA, .object RX4) rfl).2
          obtain ⟨_, _, -, -, -, f2⟩ := (hK.2 3 _ rfl).2
          have hcA : cA = ay 103 := Option.some.inj (f1.symm.trans f2)
          subst hcA
          refine Rel.push hw ?_ hP hD hS
          rw [cell_R (al_kind (K := K)) (Or.inl rfl), al_len, fresh_R hw]
        · refine va_newq (D := D) (cl := amCl) (tys := tysO ay) (C := RX9) C.1 C.2.1 C.2.2.2.1 (hT.use hl1 rfl args) hT.2.2.2.1 hK hr.1 hr.2.1 hr.2.2 hA hz1 hz2 (by omega) h1 h2 hd fun q cA H1 hK1 hP hD hS => kk q H1 ?_
          obtain ⟨_, _, -, -, -, f1⟩ := (hK1.2 6 (cA, .object RX9) rfl).2
          obtain ⟨_, _, -, -, -, f2⟩ := (hK.2 4 _ rfl).2
          have hcA : cA = ay 104 := Option.some.inj (f1.symm.trans f2)
          subst hcA
          refine Rel.push hw ?_ hP hD hS
          rw [cell_R (al_kind (K := K)) (Or.inr (Or.inl rfl)), al_len, fresh_R hw]
set_option maxHeartbeats 4000000 in
theorem s_new {idx : Nat} (C : Ctx sc base D ay fx ax mi p Rm s m meth c) (hd : decode (mBytes mi) pc = .ok (.new idx, n)) (hn : insLen (.new idx) n = true) (hw : AMwf I L R K) (hst : okS K.2.2.1 st) (hls : okL K.2.2.1 ls) (h : stepL sc mi (.new idx) n pc ls st I L R K = some g) : StepS p l e Rm s m args below meth c base D ay fx (mMaxL mi) pc ls st I L R K g := by
  obtain rfl : n = 3 := by simpa [insLen] using hn
  simp only [stepL] at h
  split at h
  case h_2 => cases h
  case h_1 ci hci =>
    cases h
    obtain ⟨Cn, T, N, hc, hl1, hl2, hl3⟩ := nSite_spec hci
    have hK := C.2.2.2.2.2.2.2.2.1
    have hT := C.2.2.2.2.2.2.2.1
    have hN : nFld ci = N := by unfold nFld; rw [clAt_eq hc]
    have hA : ∀ q, s.heap.size ≤ q → base ≤ q := fun q hq => Nat.le_trans C.2.2.2.2.2.2.2.2.2.2.1 hq
    have hcls := cls_ok _ (List.mem_of_getElem? hc)
    have hty : ∀ j, j < N → parseFieldDescriptor (T j).2.2.1 = some ((parseFieldDescriptor (T j).2.2.1).getD .int) := fun j hj => by
      have h1 := hcls.2.1 j hj
      cases h2 : parseFieldDescriptor (T j).2.2.1 with
      | none => rw [h2] at h1; cases h1
      | some ty => rfl
    rw [hN]
    refine StepS.alloc hst hls fun am H locs cells slots lc Q hr hl h1 h2 kk => ?_
    refine va_new (D := D) (cl := amCl) (tys := tysO ay) (ci := ci) (C := Cn) (T := T) (N := N) (fs := (List.range N).map fun k => if fKind ci k = 2 then .null else .int 0) C.1 C.2.1 (am_hts C hc) (fun _ h => h) _ hty C.2.2.2.1 (hT.use hl1 rfl args) (hT.use hl2 rfl args) (hT.use hl3 rfl args) hK hr.1 hr.2.1 hr.2.2 hA hc (fun j hj => ?_) h1 h2 hd fun q H1 hP hD hS => kk q H1 ?_
    · have e1 : vp_V ((List.range N).map fun k => if fKind ci k = 2 then Value.null else .int 0) j = if fKind ci j = 2 then Value.null else .int 0 := by
        unfold vp_V
        rw [List.getD_eq_getElem?_getD, fs_get hj]
        rfl
      rw [e1]
      have h3 := hcls.2.1 j hj
      have hcl := clAt_eq hc
      unfold fKind
      rw [hcl]
      cases h4 : parseFieldDescriptor (T j).2.2.1 with
      | none => rw [h4] at h3; cases h3
      | some ty =>
        rw [h4] at h3
        cases ty <;> first | (cases h3; done) | rfl
    · refine Rel.push hw ?_ hP hD hS
      rw [cellO_obj (al_kind (K := K)) hc]
      congr 2
      apply List.map_congr_left
      intro k hk
      have hf := hw.2.2.2.1 K.2.2.1 k (Nat.le_refl _)
      by_cases h5 : fKind ci k = 2
      · rw [fval_r h5, if_pos h5, hf.2.2]
        rfl
      · rw [fval_n h5, if_neg h5, hf.1]
        rfl
set_option maxHeartbeats 4000000 in
theorem s_arraylength (C : Ctx sc base D ay fx ax mi p Rm s m meth c) (hd : decode (mBytes mi) pc = .ok (.arraylength, n)) (hn : insLen (.arraylength) n = true) (hw : AMwf I L R K) (hst : okS K.2.2.1 st) (hls : okL K.2.2.1 ls) (h : stepL sc mi (.arraylength) n pc ls st I L R K = some g) : StepS p l e Rm s m args below meth c base D ay fx (mMaxL mi) pc ls st I L R K g := by
  obtain rfl : n = 1 := by simpa [insLen] using hn
  simp only [stepL] at h
  split at h
  case h_3 => cases h
  case h_1 a r =>
    split at h
    case isFalse => cases h
    case isTrue hk =>
      cases h
      have ha : a < K.2.2.1 := hw.2.2.1 a (by omega)
      have hK := C.2.2.2.2.2.2.2.2.1
      refine StepS.pure fun am H locs cells slots lc Q hr hl kk => ?_
      have e9 : Int32.ofNat (K.2.1 a) = Int32.ofInt (K.2.1 a : Nat) := rfl
      have hcase : K.1 a = 100 ∨ K.1 a = 101 ∨ K.1 a = 102 ∨ K.1 a = 103 ∨ K.1 a = 104 ∨ K.1 a = 105 := by omega
      rcases hcase with h3 | h3 | h3 | h3 | h3 | h3
      · exact va_alen (D := D) (cl := amCl) (tys := tysO ay) C.1 C.2.1 hK hr.1 a 0 (am_at h3 (cell_I h3) ha) rfl e9 hd (kk lc hl)
      · exact va_alen (D := D) (cl := amCl) (tys := tysO ay) C.1 C.2.1 hK hr.1 a 1 (am_at h3 (cell_Z h3) ha) rfl e9 hd (kk lc hl)
      · exact va_alen (D := D) (cl := amCl) (tys := tysO ay) C.1 C.2.1 hK hr.1 a 2 (am_at h3 (cell_L h3) ha) rfl e9 hd (kk lc hl)
      · exact va_alen (D := D) (cl := amCl) (tys := tysO ay) C.1 C.2.1 hK hr.1 a 3 (am_at h3 (cell_R h3 (by omega)) ha) rfl e9 hd (kk lc hl)
      · exact va_alen (D := D) (cl := amCl) (tys := tysO ay) C.1 C.2.1 hK hr.1 a 4 (am_at h3 (cell_R h3 (by omega)) ha) rfl e9 hd (kk lc hl)
      · exact va_alen (D := D) (cl := amCl) (tys := tysO ay) C.1 C.2.1 hK hr.1 a 5 (am_at h3 (cell_R h3 (by omega)) ha) rfl e9 hd (kk lc hl)
  case h_2 r =>
    cases h
    have hX := C.2.2.2.2.2.2.2.2.2.1
    refine StepS.pure fun am H locs cells slots lc Q hr hl kk => va_slen C.1 C.2.1 hX.2.1 hX.2.2.1.1 hX.2.2.1.2 hr.2.2 hd (kk lc hl)
end
