/-! the steps that touch no cell (by program) -/
theorem key_eq {o o' i i' : Nat} (h : o * 4096 + i = o' * 4096 + i') (h1 : i < 4096) (h2 : i' < 4096) : o = o' ∧ i = i' := by omega
theorem lSite_spec {o idx : Nat} {v : AV} (h : lSite o idx = some v) : (∃ x : Int, v = aI x ∧ inR x ∧ Cond.constant (oName o) idx (Int32.ofInt x) ∈ lw_tbl) ∨ (∃ y : Int64, v = aL y ∧ Cond.constantLong (oName o) idx y ∈ lw_tbl) ∨ (∃ (j : Nat) (tx : String), v = aF (j + 1) ∧ sTab[j]? = some (oName o, idx, tx)) := by
  unfold lSite at h
  split at h
  case isFalse => cases h
  case isTrue hi =>
    obtain ⟨o', i', he, h2, h3⟩ := ltab_ok _ (al_mem h)
    obtain ⟨rfl, rfl⟩ := key_eq he hi h2
    exact h3
theorem aset_lt {ls l1 : ALs} {k : Nat} {v : AV} (h : aset ls k v = some l1) : k < ls.length := by
  unfold aset at h
  split at h
  case isTrue hc => exact hc.1
  case isFalse => cases h
theorem aset2_lt {ls l1 : ALs} {k : Nat} {v : AV} (h : aset2 ls k v = some l1) : k + 1 < ls.length := by
  unfold aset2 at h
  split at h
  case isTrue hc => exact hc.1
  case isFalse => cases h
theorem am_ldcwS {p : Program} {l : Launch} {e : Env} {Rm : Room} {s : State} {m : MethodId} {args : Array Value} {below : List Frame} {meth : Method} {c : Code} {H : Heap} {locs : List Loc} {cells slots : Nat} {Q : State → Prop} {cc : ByteArray} {pc : Nat} {ls : Array Slot} {rest : List Value} {own tx : String} {index q : Nat} (hexec : p.tables.exec = Jvm.exec) (hb : c.code = cc) (hown : s.vm.findClass own = some m.cls) (hZ : vk_R own index tx q s) (hd : decode cc pc = .ok (.ldc_w index, 3)) (kk : W p l e Rm s m args below meth c H locs cells slots Q (F0 m (pc + 3) ls (.ref q :: rest))) : W p l e Rm s m args below meth c H locs cells slots Q (F0 m pc ls rest) := by
  intro T hT X
  obtain ⟨t, a1, b1⟩ := kk T hT X
  exact ⟨t, X.ldcStringW hexec hown (text := tx) (a := q) hZ.1 hZ.2 (g := F0 m pc ls rest) rfl (by rw [hb]; exact hd) t a1, b1⟩
section
variable {p : Program} {l : Launch} {e : Env} {Rm : Room} {s : State} {m : MethodId} {args : Array Value} {below : List Frame} {meth : Method} {c : Code} {base : Nat} {D : va_G} {ay fx ax : Nat → Nat} {sc : Nat × (Nat → Int)} {mi n pc : Nat} {ls : ALs} {st : List AV} {I : IH} {L : LH} {R : RH} {K : KH} {g : ACfg}
set_option maxHeartbeats 4000000 in
theorem s_iconst {k : Int} (C : Ctx sc base D ay fx ax mi p Rm s m meth c) (hd : decode (mBytes mi) pc = .ok (.iconst k, n)) (hn : insLen (.iconst k) n = true) (hw : AMwf I L R K) (hst : okS K.2.2.1 st) (hls : okL K.2.2.1 ls) (h : stepL sc mi (.iconst k) n pc ls st I L R K = some g) : StepS p l e Rm s m args below meth c base D ay fx (mMaxL mi) pc ls st I L R K g := by
  obtain rfl : n = 1 := by simpa [insLen] using hn
  simp only [stepL] at h
  cases h
  exact StepS.pure fun am H locs cells slots lc Q hr hl kk => lv_iconst C.1 C.2.1 hd (ofInt_toInt _).symm (kk lc hl)

set_option maxHeartbeats 4000000 in
theorem s_bipush {k : Int} (C : Ctx sc base D ay fx ax mi p Rm s m meth c) (hd : decode (mBytes mi) pc = .ok (.bipush k, n)) (hn : insLen (.bipush k) n = true) (hw : AMwf I L R K) (hst : okS K.2.2.1 st) (hls : okL K.2.2.1 ls) (h : stepL sc mi (.bipush k) n pc ls st I L R K = some g) : StepS p l e Rm s m args below meth c base D ay fx (mMaxL mi) pc ls st I L R K g := by
  obtain rfl : n = 2 := by simpa [insLen] using hn
  simp only [stepL] at h
  cases h
  exact StepS.pure fun am H locs cells slots lc Q hr hl kk => lv_bipush C.1 C.2.1 hd (ofInt_toInt _).symm (kk lc hl)

set_option maxHeartbeats 4000000 in
theorem s_sipush {k : Int} (C : Ctx sc base D ay fx ax mi p Rm s m meth c) (hd : decode (mBytes mi) pc = .ok (.sipush k, n)) (hn : insLen (.sipush k) n = true) (hw : AMwf I L R K) (hst : okS K.2.2.1 st) (hls : okL K.2.2.1 ls) (h : stepL sc mi (.sipush k) n pc ls st I L R K = some g) : StepS p l e Rm s m args below meth c base D ay fx (mMaxL mi) pc ls st I L R K g := by
  obtain rfl : n = 3 := by simpa [insLen] using hn
  simp only [stepL] at h
  cases h
  exact StepS.pure fun am H locs cells slots lc Q hr hl kk => lv_sipush C.1 C.2.1 hd (ofInt_toInt _).symm (kk lc hl)

set_option maxHeartbeats 4000000 in
theorem s_lconst {k : Fin 2} (C : Ctx sc base D ay fx ax mi p Rm s m meth c) (hd : decode (mBytes mi) pc = .ok (.lconst k, n)) (hn : insLen (.lconst k) n = true) (hw : AMwf I L R K) (hst : okS K.2.2.1 st) (hls : okL K.2.2.1 ls) (h : stepL sc mi (.lconst k) n pc ls st I L R K = some g) : StepS p l e Rm s m args below meth c base D ay fx (mMaxL mi) pc ls st I L R K g := by
  obtain rfl : n = 1 := by simpa [insLen] using hn
  simp only [stepL] at h
  cases h
  exact StepS.pure fun am H locs cells slots lc Q hr hl kk => lv_lconst C.1 C.2.1 hd rfl (kk lc hl)

set_option maxHeartbeats 4000000 in
theorem s_ldc {k : Nat} (C : Ctx sc base D ay fx ax mi p Rm s m meth c) (hd : decode (mBytes mi) pc = .ok (.ldc k, n)) (hn : insLen (.ldc k) n = true) (hw : AMwf I L R K) (hst : okS K.2.2.1 st) (hls : okL K.2.2.1 ls) (h : stepL sc mi (.ldc k) n pc ls st I L R K = some g) : StepS p l e Rm s m args below meth c base D ay fx (mMaxL mi) pc ls st I L R K g := by
  obtain rfl : n = 2 := by simpa [insLen] using hn
  simp only [stepL] at h
  split at h
  case h_2 => cases h
  case h_1 v hv =>
    split at h
    case isTrue => cases h
    case isFalse hlg =>
      cases h
      rcases lSite_spec hv with ⟨x, rfl, hx, hw1⟩ | ⟨y, rfl, -⟩ | ⟨j, tx, rfl, hj⟩
      · exact StepS.pure fun am H locs cells slots lc Q hr hl kk => lv_ldc C.1 C.2.1 C.2.2.2.1 (C.2.2.2.2.2.2.2.1.use hw1 rfl args) hd (kk lc hl)
      · exact absurd rfl hlg
      · exact StepS.pure fun am H locs cells slots lc Q hr hl kk => va_ldcS C.1 C.2.1 C.2.2.2.1 (C.2.2.2.2.2.2.2.1.2.2.2.2.2 j _ _ _ hj) hd (kk lc hl)

set_option maxHeartbeats 4000000 in
theorem s_ldc_w {k : Nat} (C : Ctx sc base D ay fx ax mi p Rm s m meth c) (hd : decode (mBytes mi) pc = .ok (.ldc_w k, n)) (hn : insLen (.ldc_w k) n = true) (hw : AMwf I L R K) (hst : okS K.2.2.1 st) (hls : okL K.2.2.1 ls) (h : stepL sc mi (.ldc_w k) n pc ls st I L R K = some g) : StepS p l e Rm s m args below meth c base D ay fx (mMaxL mi) pc ls st I L R K g := by
  obtain rfl : n = 3 := by simpa [insLen] using hn
  simp only [stepL] at h
  split at h
  case h_2 => cases h
  case h_1 v hv =>
    split at h
    case isTrue => cases h
    case isFalse hlg =>
      cases h
      rcases lSite_spec hv with ⟨x, rfl, hx, hw1⟩ | ⟨y, rfl, -⟩ | ⟨j, tx, rfl, hj⟩
      · exact StepS.pure fun am H locs cells slots lc Q hr hl kk => lv_ldcw C.1 C.2.1 C.2.2.2.1 (C.2.2.2.2.2.2.2.1.use hw1 rfl args) hd (kk lc hl)
      · exact absurd rfl hlg
      · exact StepS.pure fun am H locs cells slots lc Q hr hl kk => am_ldcwS C.1 C.2.1 C.2.2.2.1 (C.2.2.2.2.2.2.2.1.2.2.2.2.2 j _ _ _ hj) hd (kk lc hl)

set_option maxHeartbeats 4000000 in
theorem s_ldc2_w {k : Nat} (C : Ctx sc base D ay fx ax mi p Rm s m meth c) (hd : decode (mBytes mi) pc = .ok (.ldc2_w k, n)) (hn : insLen (.ldc2_w k) n = true) (hw : AMwf I L R K) (hst : okS K.2.2.1 st) (hls : okL K.2.2.1 ls) (h : stepL sc mi (.ldc2_w k) n pc ls st I L R K = some g) : StepS p l e Rm s m args below meth c base D ay fx (mMaxL mi) pc ls st I L R K g := by
  obtain rfl : n = 3 := by simpa [insLen] using hn
  simp only [stepL] at h
  split at h
  case h_2 => cases h
  case h_1 v hv =>
    cases h
    rcases lSite_spec hv with ⟨x, hx0, hx, hw1⟩ | ⟨y, hx0, hw1⟩ | ⟨j, tx, hx0, hj⟩
    · cases hx0
    · cases hx0
      exact StepS.pure fun am H locs cells slots lc Q hr hl kk => lv_ldc2 C.1 C.2.1 C.2.2.2.1 (C.2.2.2.2.2.2.2.1.use hw1 rfl args) hd (kk lc hl)
    · cases hx0

set_option maxHeartbeats 4000000 in
theorem s_iload {k : Nat} (C : Ctx sc base D ay fx ax mi p Rm s m meth c) (hd : decode (mBytes mi) pc = .ok (.iload k, n)) (hn : insLen (.iload k) n = true) (hw : AMwf I L R K) (hst : okS K.2.2.1 st) (hls : okL K.2.2.1 ls) (h : stepL sc mi (.iload k) n pc ls st I L R K = some g) : StepS p l e Rm s m args below meth c base D ay fx (mMaxL mi) pc ls st I L R K g := by
  obtain rfl : n = 2 := by simpa [insLen] using hn
  simp only [stepL] at h
  split at h
  case h_2 => cases h
  case h_1 x hx =>
    cases h
    exact StepS.pure fun am H locs cells slots lc Q hr hl kk => lv_iload C.1 C.2.1 hd (hl.get hx) (kk lc hl)

set_option maxHeartbeats 4000000 in
theorem s_iload_n {k : Fin 4} (C : Ctx sc base D ay fx ax mi p Rm s m meth c) (hd : decode (mBytes mi) pc = .ok (.iload_n k, n)) (hn : insLen (.iload_n k) n = true) (hw : AMwf I L R K) (hst : okS K.2.2.1 st) (hls : okL K.2.2.1 ls) (h : stepL sc mi (.iload_n k) n pc ls st I L R K = some g) : StepS p l e Rm s m args below meth c base D ay fx (mMaxL mi) pc ls st I L R K g := by
  obtain rfl : n = 1 := by simpa [insLen] using hn
  simp only [stepL] at h
  split at h
  case h_2 => cases h
  case h_1 x hx =>
    cases h
    exact StepS.pure fun am H locs cells slots lc Q hr hl kk => lv_iload_n C.1 C.2.1 hd rfl (hl.get hx) (kk lc hl)

set_option maxHeartbeats 4000000 in
theorem s_lload_n {k : Fin 4} (C : Ctx sc base D ay fx ax mi p Rm s m meth c) (hd : decode (mBytes mi) pc = .ok (.lload_n k, n)) (hn : insLen (.lload_n k) n = true) (hw : AMwf I L R K) (hst : okS K.2.2.1 st) (hls : okL K.2.2.1 ls) (h : stepL sc mi (.lload_n k) n pc ls st I L R K = some g) : StepS p l e Rm s m args below meth c base D ay fx (mMaxL mi) pc ls st I L R K g := by
  obtain rfl : n = 1 := by simpa [insLen] using hn
  simp only [stepL] at h
  split at h
  case h_2 => cases h
  case h_1 x hx =>
    cases h
    exact StepS.pure fun am H locs cells slots lc Q hr hl kk => lv_lload_n C.1 C.2.1 hd rfl (hl.get hx) (kk lc hl)

set_option maxHeartbeats 4000000 in
theorem s_aload {k : Nat} (C : Ctx sc base D ay fx ax mi p Rm s m meth c) (hd : decode (mBytes mi) pc = .ok (.aload k, n)) (hn : insLen (.aload k) n = true) (hw : AMwf I L R K) (hst : okS K.2.2.1 st) (hls : okL K.2.2.1 ls) (h : stepL sc mi (.aload k) n pc ls st I L R K = some g) : StepS p l e Rm s m args below meth c base D ay fx (mMaxL mi) pc ls st I L R K g := by
  obtain rfl : n = 2 := by simpa [insLen] using hn
  simp only [stepL] at h
  split at h
  case h_1 x hx =>
    cases h
    exact StepS.pure fun am H locs cells slots lc Q hr hl kk => lv_aload C.1 C.2.1 hd (hl.get hx) (kk lc hl)
  case h_2 x hx =>
    cases h
    exact StepS.pure fun am H locs cells slots lc Q hr hl kk => lv_aload C.1 C.2.1 hd (hl.get hx) (kk lc hl)
  case h_3 => cases h

set_option maxHeartbeats 4000000 in
theorem s_aload_n {k : Fin 4} (C : Ctx sc base D ay fx ax mi p Rm s m meth c) (hd : decode (mBytes mi) pc = .ok (.aload_n k, n)) (hn : insLen (.aload_n k) n = true) (hw : AMwf I L R K) (hst : okS K.2.2.1 st) (hls : okL K.2.2.1 ls) (h : stepL sc mi (.aload_n k) n pc ls st I L R K = some g) : StepS p l e Rm s m args below meth c base D ay fx (mMaxL mi) pc ls st I L R K g := by
  obtain rfl : n = 1 := by simpa [insLen] using hn
  simp only [stepL] at h
  split at h
  case h_1 x hx =>
    cases h
    exact StepS.pure fun am H locs cells slots lc Q hr hl kk => lv_aload_n C.1 C.2.1 hd rfl (hl.get hx) (kk lc hl)
  case h_2 x hx =>
    cases h
    exact StepS.pure fun am H locs cells slots lc Q hr hl kk => lv_aload_n C.1 C.2.1 hd rfl (hl.get hx) (kk lc hl)
  case h_3 => cases h

set_option maxHeartbeats 4000000 in
theorem s_istore {k : Nat} (C : Ctx sc base D ay fx ax mi p Rm s m meth c) (hd : decode (mBytes mi) pc = .ok (.istore k, n)) (hn : insLen (.istore k) n = true) (hw : AMwf I L R K) (hst : okS K.2.2.1 st) (hls : okL K.2.2.1 ls) (h : stepL sc mi (.istore k) n pc ls st I L R K = some g) : StepS p l e Rm s m args below meth c base D ay fx (mMaxL mi) pc ls st I L R K g := by
  obtain rfl : n = 2 := by simpa [insLen] using hn
  simp only [stepL] at h
  split at h
  case h_2 => cases h
  case h_1 x r =>
    obtain ⟨l1, ha, hg⟩ := Option.map_eq_some_iff.mp h
    cases hg
    exact StepS.pure fun am H locs cells slots lc Q hr hl kk => lv_istore C.1 C.2.1 hd hl.has (by rw [← hl.2.1]; exact aset_lt ha) rfl fun lc1 h1 => kk lc1 (hl.set ha h1)

set_option maxHeartbeats 4000000 in
theorem s_istore_n {k : Fin 4} (C : Ctx sc base D ay fx ax mi p Rm s m meth c) (hd : decode (mBytes mi) pc = .ok (.istore_n k, n)) (hn : insLen (.istore_n k) n = true) (hw : AMwf I L R K) (hst : okS K.2.2.1 st) (hls : okL K.2.2.1 ls) (h : stepL sc mi (.istore_n k) n pc ls st I L R K = some g) : StepS p l e Rm s m args below meth c base D ay fx (mMaxL mi) pc ls st I L R K g := by
  obtain rfl : n = 1 := by simpa [insLen] using hn
  simp only [stepL] at h
  split at h
  case h_2 => cases h
  case h_1 x r =>
    obtain ⟨l1, ha, hg⟩ := Option.map_eq_some_iff.mp h
    cases hg
    exact StepS.pure fun am H locs cells slots lc Q hr hl kk => lv_istore_n C.1 C.2.1 hd rfl hl.has (by rw [← hl.2.1]; exact aset_lt ha) rfl fun lc1 h1 => kk lc1 (hl.set ha h1)

set_option maxHeartbeats 4000000 in
theorem s_astore {k : Nat} (C : Ctx sc base D ay fx ax mi p Rm s m meth c) (hd : decode (mBytes mi) pc = .ok (.astore k, n)) (hn : insLen (.astore k) n = true) (hw : AMwf I L R K) (hst : okS K.2.2.1 st) (hls : okL K.2.2.1 ls) (h : stepL sc mi (.astore k) n pc ls st I L R K = some g) : StepS p l e Rm s m args below meth c base D ay fx (mMaxL mi) pc ls st I L R K g := by
  obtain rfl : n = 2 := by simpa [insLen] using hn
  simp only [stepL] at h
  split at h
  case h_2 => cases h
  case h_1 x r =>
    obtain ⟨l1, ha, hg⟩ := Option.map_eq_some_iff.mp h
    cases hg
    exact StepS.pure fun am H locs cells slots lc Q hr hl kk => lv_astore C.1 C.2.1 hd hl.has (by rw [← hl.2.1]; exact aset_lt ha) rfl fun lc1 h1 => kk lc1 (hl.set ha h1)

set_option maxHeartbeats 4000000 in
theorem s_astore_n {k : Fin 4} (C : Ctx sc base D ay fx ax mi p Rm s m meth c) (hd : decode (mBytes mi) pc = .ok (.astore_n k, n)) (hn : insLen (.astore_n k) n = true) (hw : AMwf I L R K) (hst : okS K.2.2.1 st) (hls : okL K.2.2.1 ls) (h : stepL sc mi (.astore_n k) n pc ls st I L R K = some g) : StepS p l e Rm s m args below meth c base D ay fx (mMaxL mi) pc ls st I L R K g := by
  obtain rfl : n = 1 := by simpa [insLen] using hn
  simp only [stepL] at h
  split at h
  case h_2 => cases h
  case h_1 x r =>
    obtain ⟨l1, ha, hg⟩ := Option.map_eq_some_iff.mp h
    cases hg
    exact StepS.pure fun am H locs cells slots lc Q hr hl kk => lv_astore_n C.1 C.2.1 hd rfl hl.has (by rw [← hl.2.1]; exact aset_lt ha) rfl fun lc1 h1 => kk lc1 (hl.set ha h1)

set_option maxHeartbeats 4000000 in
theorem s_lstore_n {k : Fin 4} (C : Ctx sc base D ay fx ax mi p Rm s m meth c) (hd : decode (mBytes mi) pc = .ok (.lstore_n k, n)) (hn : insLen (.lstore_n k) n = true) (hw : AMwf I L R K) (hst : okS K.2.2.1 st) (hls : okL K.2.2.1 ls) (h : stepL sc mi (.lstore_n k) n pc ls st I L R K = some g) : StepS p l e Rm s m args below meth c base D ay fx (mMaxL mi) pc ls st I L R K g := by
  obtain rfl : n = 1 := by simpa [insLen] using hn
  simp only [stepL] at h
  split at h
  case h_2 => cases h
  case h_1 x r =>
    obtain ⟨l1, ha, hg⟩ := Option.map_eq_some_iff.mp h
    cases hg
    exact StepS.pure fun am H locs cells slots lc Q hr hl kk => lv_lstore_n C.1 C.2.1 hd rfl hl.has (by rw [← hl.2.1]; exact aset2_lt ha) rfl fun lc1 h1 => kk lc1 (hl.set2 ha h1)

set_option maxHeartbeats 4000000 in
theorem s_iinc {k : Nat} {z : Int} (C : Ctx sc base D ay fx ax mi p Rm s m meth c) (hd : decode (mBytes mi) pc = .ok (.iinc k z, n)) (hn : insLen (.iinc k z) n = true) (hw : AMwf I L R K) (hst : okS K.2.2.1 st) (hls : okL K.2.2.1 ls) (h : stepL sc mi (.iinc k z) n pc ls st I L R K = some g) : StepS p l e Rm s m args below meth c base D ay fx (mMaxL mi) pc ls st I L R K g := by
  simp only [stepL] at h
  split at h
  case h_2 => cases h
  case h_1 x hx =>
    split at h
    case isFalse => cases h
    case isTrue hn2 =>
      obtain ⟨l1, ha, hg⟩ := Option.map_eq_some_iff.mp h
      cases hg
      refine StepS.pure fun am H locs cells slots lc Q hr hl kk => ?_
      obtain ⟨q, hq⟩ := List.getElem?_of_mem (encL_mem (am := am) (fx := fx) (aget_some hx))
      rcases hn2 with rfl | rfl
      · exact lv_iinc C.1 C.2.1 hd hl.has hq (ofInt_toInt _).symm (by rw [← hl.2.1]; exact aset_lt ha) rfl fun lc1 h1 => kk lc1 (hl.set ha h1)
      · exact lv_iincW C.1 C.2.1 hd hl.has hq (ofInt_toInt _).symm (by rw [← hl.2.1]; exact aset_lt ha) rfl fun lc1 h1 => kk lc1 (hl.set ha h1)

set_option maxHeartbeats 4000000 in
theorem s_dup (C : Ctx sc base D ay fx ax mi p Rm s m meth c) (hd : decode (mBytes mi) pc = .ok (.dup, n)) (hn : insLen (.dup) n = true) (hw : AMwf I L R K) (hst : okS K.2.2.1 st) (hls : okL K.2.2.1 ls) (h : stepL sc mi (.dup) n pc ls st I L R K = some g) : StepS p l e Rm s m args below meth c base D ay fx (mMaxL mi) pc ls st I L R K g := by
  obtain rfl : n = 1 := by simpa [insLen] using hn
  simp only [stepL] at h
  split at h
  case h_2 => cases h
  case h_1 v r =>
    split at h
    case isTrue => cases h
    case isFalse hv =>
      cases h
      exact StepS.pure fun am H locs cells slots lc Q hr hl kk => lv_dup C.1 C.2.1 hd (cv_cat1 (Bool.eq_false_iff.mpr hv)) (kk lc hl)

set_option maxHeartbeats 4000000 in
theorem s_dup2 (C : Ctx sc base D ay fx ax mi p Rm s m meth c) (hd : decode (mBytes mi) pc = .ok (.dup2, n)) (hn : insLen (.dup2) n = true) (hw : AMwf I L R K) (hst : okS K.2.2.1 st) (hls : okL K.2.2.1 ls) (h : stepL sc mi (.dup2) n pc ls st I L R K = some g) : StepS p l e Rm s m args below meth c base D ay fx (mMaxL mi) pc ls st I L R K g := by
  obtain rfl : n = 1 := by simpa [insLen] using hn
  simp only [stepL] at h
  split at h
  case h_2 => cases h
  case h_1 v w r =>
    split at h
    case isTrue => cases h
    case isFalse hv =>
      cases h
      exact StepS.pure fun am H locs cells slots lc Q hr hl kk => lv_dup2_11 C.1 C.2.1 hd (cv_cat1 (Bool.eq_false_iff.mpr fun q => hv (Or.inl q))) (cv_cat1 (Bool.eq_false_iff.mpr fun q => hv (Or.inr q))) (kk lc hl)

set_option maxHeartbeats 4000000 in
theorem s_pop (C : Ctx sc base D ay fx ax mi p Rm s m meth c) (hd : decode (mBytes mi) pc = .ok (.pop, n)) (hn : insLen (.pop) n = true) (hw : AMwf I L R K) (hst : okS K.2.2.1 st) (hls : okL K.2.2.1 ls) (h : stepL sc mi (.pop) n pc ls st I L R K = some g) : StepS p l e Rm s m args below meth c base D ay fx (mMaxL mi) pc ls st I L R K g := by
  obtain rfl : n = 1 := by simpa [insLen] using hn
  simp only [stepL] at h
  split at h
  case h_2 => cases h
  case h_1 v r =>
    split at h
    case isTrue => cases h
    case isFalse hv =>
      cases h
      exact StepS.pure fun am H locs cells slots lc Q hr hl kk => lv_pop C.1 C.2.1 hd (cv_cat1 (Bool.eq_false_iff.mpr hv)) (kk lc hl)

set_option maxHeartbeats 4000000 in
theorem s_i2b (C : Ctx sc base D ay fx ax mi p Rm s m meth c) (hd : decode (mBytes mi) pc = .ok (.i2b, n)) (hn : insLen (.i2b) n = true) (hw : AMwf I L R K) (hst : okS K.2.2.1 st) (hls : okL K.2.2.1 ls) (h : stepL sc mi (.i2b) n pc ls st I L R K = some g) : StepS p l e Rm s m args below meth c base D ay fx (mMaxL mi) pc ls st I L R K g := by
  obtain rfl : n = 1 := by simpa [insLen] using hn
  simp only [stepL] at h
  split at h
  case h_2 => cases h
  case h_1 x r =>
    cases h
    exact StepS.pure fun am H locs cells slots lc Q hr hl kk => lv_i2b C.1 C.2.1 hd (ofInt_toInt _).symm (kk lc hl)

set_option maxHeartbeats 4000000 in
theorem s_i2s (C : Ctx sc base D ay fx ax mi p Rm s m meth c) (hd : decode (mBytes mi) pc = .ok (.i2s, n)) (hn : insLen (.i2s) n = true) (hw : AMwf I L R K) (hst : okS K.2.2.1 st) (hls : okL K.2.2.1 ls) (h : stepL sc mi (.i2s) n pc ls st I L R K = some g) : StepS p l e Rm s m args below meth c base D ay fx (mMaxL mi) pc ls st I L R K g := by
  obtain rfl : n = 1 := by simpa [insLen] using hn
  simp only [stepL] at h
  split at h
  case h_2 => cases h
  case h_1 x r =>
    cases h
    exact StepS.pure fun am H locs cells slots lc Q hr hl kk => lv_i2s C.1 C.2.1 hd (ofInt_toInt _).symm (kk lc hl)

set_option maxHeartbeats 4000000 in
theorem s_l2i (C : Ctx sc base D ay fx ax mi p Rm s m meth c) (hd : decode (mBytes mi) pc = .ok (.l2i, n)) (hn : insLen (.l2i) n = true) (hw : AMwf I L R K) (hst : okS K.2.2.1 st) (hls : okL K.2.2.1 ls) (h : stepL sc mi (.l2i) n pc ls st I L R K = some g) : StepS p l e Rm s m args below meth c base D ay fx (mMaxL mi) pc ls st I L R K g := by
  obtain rfl : n = 1 := by simpa [insLen] using hn
  simp only [stepL] at h
  split at h
  case h_2 => cases h
  case h_1 x r =>
    cases h
    exact StepS.pure fun am H locs cells slots lc Q hr hl kk => lv_l2i C.1 C.2.1 hd (ofInt_toInt _).symm (kk lc hl)

set_option maxHeartbeats 4000000 in
theorem s_lcmp (C : Ctx sc base D ay fx ax mi p Rm s m meth c) (hd : decode (mBytes mi) pc = .ok (.lcmp, n)) (hn : insLen (.lcmp) n = true) (hw : AMwf I L R K) (hst : okS K.2.2.1 st) (hls : okL K.2.2.1 ls) (h : stepL sc mi (.lcmp) n pc ls st I L R K = some g) : StepS p l e Rm s m args below meth c base D ay fx (mMaxL mi) pc ls st I L R K g := by
  obtain rfl : n = 1 := by simpa [insLen] using hn
  simp only [stepL] at h
  split at h
  case h_2 => cases h
  case h_1 y x r =>
    cases h
    exact StepS.pure fun am H locs cells slots lc Q hr hl kk => W.lcmp C.1 C.2.1 hd (by have h9 := kk lc hl; rw [List.map_cons, cv_int] at h9; exact h9)

set_option maxHeartbeats 4000000 in
theorem s_lushr (C : Ctx sc base D ay fx ax mi p Rm s m meth c) (hd : decode (mBytes mi) pc = .ok (.lushr, n)) (hn : insLen (.lushr) n = true) (hw : AMwf I L R K) (hst : okS K.2.2.1 st) (hls : okL K.2.2.1 ls) (h : stepL sc mi (.lushr) n pc ls st I L R K = some g) : StepS p l e Rm s m args below meth c base D ay fx (mMaxL mi) pc ls st I L R K g := by
  obtain rfl : n = 1 := by simpa [insLen] using hn
  simp only [stepL] at h
  split at h
  case h_2 => cases h
  case h_1 y x r =>
    cases h
    exact StepS.pure fun am H locs cells slots lc Q hr hl kk => lv_lushr C.1 C.2.1 hd rfl (kk lc hl)

set_option maxHeartbeats 4000000 in
theorem s_lshl (C : Ctx sc base D ay fx ax mi p Rm s m meth c) (hd : decode (mBytes mi) pc = .ok (.lshl, n)) (hn : insLen (.lshl) n = true) (hw : AMwf I L R K) (hst : okS K.2.2.1 st) (hls : okL K.2.2.1 ls) (h : stepL sc mi (.lshl) n pc ls st I L R K = some g) : StepS p l e Rm s m args below meth c base D ay fx (mMaxL mi) pc ls st I L R K g := by
  obtain rfl : n = 1 := by simpa [insLen] using hn
  simp only [stepL] at h
  split at h
  case h_2 => cases h
  case h_1 y x r =>
    cases h
    exact StepS.pure fun am H locs cells slots lc Q hr hl kk => lv_lshl C.1 C.2.1 hd rfl (kk lc hl)

set_option maxHeartbeats 4000000 in
theorem s_iadd (C : Ctx sc base D ay fx ax mi p Rm s m meth c) (hd : decode (mBytes mi) pc = .ok (.iadd, n)) (hn : insLen (.iadd) n = true) (hw : AMwf I L R K) (hst : okS K.2.2.1 st) (hls : okL K.2.2.1 ls) (h : stepL sc mi (.iadd) n pc ls st I L R K = some g) : StepS p l e Rm s m args below meth c base D ay fx (mMaxL mi) pc ls st I L R K g := by
  obtain rfl : n = 1 := by simpa [insLen] using hn
  simp only [stepL, stB] at h
  split at h
  case h_2 => cases h
  case h_1 y x r =>
    simp only [bop, Option.map_some] at h
    cases h
    exact StepS.pure fun am H locs cells slots lc Q hr hl kk => lv_iadd C.1 C.2.1 hd (by have h9 := kk lc hl; rw [List.map_cons, cv_int] at h9; exact h9)

set_option maxHeartbeats 4000000 in
theorem s_isub (C : Ctx sc base D ay fx ax mi p Rm s m meth c) (hd : decode (mBytes mi) pc = .ok (.isub, n)) (hn : insLen (.isub) n = true) (hw : AMwf I L R K) (hst : okS K.2.2.1 st) (hls : okL K.2.2.1 ls) (h : stepL sc mi (.isub) n pc ls st I L R K = some g) : StepS p l e Rm s m args below meth c base D ay fx (mMaxL mi) pc ls st I L R K g := by
  obtain rfl : n = 1 := by simpa [insLen] using hn
  simp only [stepL, stB] at h
  split at h
  case h_2 => cases h
  case h_1 y x r =>
    simp only [bop, Option.map_some] at h
    cases h
    exact StepS.pure fun am H locs cells slots lc Q hr hl kk => lv_isub C.1 C.2.1 hd (by have h9 := kk lc hl; rw [List.map_cons, cv_int] at h9; exact h9)

set_option maxHeartbeats 4000000 in
theorem s_imul (C : Ctx sc base D ay fx ax mi p Rm s m meth c) (hd : decode (mBytes mi) pc = .ok (.imul, n)) (hn : insLen (.imul) n = true) (hw : AMwf I L R K) (hst : okS K.2.2.1 st) (hls : okL K.2.2.1 ls) (h : stepL sc mi (.imul) n pc ls st I L R K = some g) : StepS p l e Rm s m args below meth c base D ay fx (mMaxL mi) pc ls st I L R K g := by
  obtain rfl : n = 1 := by simpa [insLen] using hn
  simp only [stepL, stB] at h
  split at h
  case h_2 => cases h
  case h_1 y x r =>
    simp only [bop, Option.map_some] at h
    cases h
    exact StepS.pure fun am H locs cells slots lc Q hr hl kk => lv_imul C.1 C.2.1 hd (by have h9 := kk lc hl; rw [List.map_cons, cv_int] at h9; exact h9)

set_option maxHeartbeats 4000000 in
theorem s_iand (C : Ctx sc base D ay fx ax mi p Rm s m meth c) (hd : decode (mBytes mi) pc = .ok (.iand, n)) (hn : insLen (.iand) n = true) (hw : AMwf I L R K) (hst : okS K.2.2.1 st) (hls : okL K.2.2.1 ls) (h : stepL sc mi (.iand) n pc ls st I L R K = some g) : StepS p l e Rm s m args below meth c base D ay fx (mMaxL mi) pc ls st I L R K g := by
  obtain rfl : n = 1 := by simpa [insLen] using hn
  simp only [stepL, stB] at h
  split at h
  case h_2 => cases h
  case h_1 y x r =>
    simp only [bop, Option.map_some] at h
    cases h
    exact StepS.pure fun am H locs cells slots lc Q hr hl kk => lv_iand C.1 C.2.1 hd (by have h9 := kk lc hl; rw [List.map_cons, cv_int] at h9; exact h9)

set_option maxHeartbeats 4000000 in
theorem s_ior (C : Ctx sc base D ay fx ax mi p Rm s m meth c) (hd : decode (mBytes mi) pc = .ok (.ior, n)) (hn : insLen (.ior) n = true) (hw : AMwf I L R K) (hst : okS K.2.2.1 st) (hls : okL K.2.2.1 ls) (h : stepL sc mi (.ior) n pc ls st I L R K = some g) : StepS p l e Rm s m args below meth c base D ay fx (mMaxL mi) pc ls st I L R K g := by
  obtain rfl : n = 1 := by simpa [insLen] using hn
  simp only [stepL, stB] at h
  split at h
  case h_2 => cases h
  case h_1 y x r =>
    simp only [bop, Option.map_some] at h
    cases h
    exact StepS.pure fun am H locs cells slots lc Q hr hl kk => lv_ior C.1 C.2.1 hd (by have h9 := kk lc hl; rw [List.map_cons, cv_int] at h9; exact h9)

set_option maxHeartbeats 4000000 in
theorem s_ixor (C : Ctx sc base D ay fx ax mi p Rm s m meth c) (hd : decode (mBytes mi) pc = .ok (.ixor, n)) (hn : insLen (.ixor) n = true) (hw : AMwf I L R K) (hst : okS K.2.2.1 st) (hls : okL K.2.2.1 ls) (h : stepL sc mi (.ixor) n pc ls st I L R K = some g) : StepS p l e Rm s m args below meth c base D ay fx (mMaxL mi) pc ls st I L R K g := by
  obtain rfl : n = 1 := by simpa [insLen] using hn
  simp only [stepL, stB] at h
  split at h
  case h_2 => cases h
  case h_1 y x r =>
    simp only [bop, Option.map_some] at h
    cases h
    exact StepS.pure fun am H locs cells slots lc Q hr hl kk => lv_ixor C.1 C.2.1 hd (by have h9 := kk lc hl; rw [List.map_cons, cv_int] at h9; exact h9)

set_option maxHeartbeats 4000000 in
theorem s_ishl (C : Ctx sc base D ay fx ax mi p Rm s m meth c) (hd : decode (mBytes mi) pc = .ok (.ishl, n)) (hn : insLen (.ishl) n = true) (hw : AMwf I L R K) (hst : okS K.2.2.1 st) (hls : okL K.2.2.1 ls) (h : stepL sc mi (.ishl) n pc ls st I L R K = some g) : StepS p l e Rm s m args below meth c base D ay fx (mMaxL mi) pc ls st I L R K g := by
  obtain rfl : n = 1 := by simpa [insLen] using hn
  simp only [stepL, stB] at h
  split at h
  case h_2 => cases h
  case h_1 y x r =>
    simp only [bop, Option.map_some] at h
    cases h
    exact StepS.pure fun am H locs cells slots lc Q hr hl kk => lv_ishl C.1 C.2.1 hd (by have h9 := kk lc hl; rw [List.map_cons, cv_int] at h9; exact h9)

set_option maxHeartbeats 4000000 in
theorem s_ishr (C : Ctx sc base D ay fx ax mi p Rm s m meth c) (hd : decode (mBytes mi) pc = .ok (.ishr, n)) (hn : insLen (.ishr) n = true) (hw : AMwf I L R K) (hst : okS K.2.2.1 st) (hls : okL K.2.2.1 ls) (h : stepL sc mi (.ishr) n pc ls st I L R K = some g) : StepS p l e Rm s m args below meth c base D ay fx (mMaxL mi) pc ls st I L R K g := by
  obtain rfl : n = 1 := by simpa [insLen] using hn
  simp only [stepL, stB] at h
  split at h
  case h_2 => cases h
  case h_1 y x r =>
    simp only [bop, Option.map_some] at h
    cases h
    exact StepS.pure fun am H locs cells slots lc Q hr hl kk => lv_ishr C.1 C.2.1 hd (by have h9 := kk lc hl; rw [List.map_cons, cv_int] at h9; exact h9)

set_option maxHeartbeats 4000000 in
theorem s_iushr (C : Ctx sc base D ay fx ax mi p Rm s m meth c) (hd : decode (mBytes mi) pc = .ok (.iushr, n)) (hn : insLen (.iushr) n = true) (hw : AMwf I L R K) (hst : okS K.2.2.1 st) (hls : okL K.2.2.1 ls) (h : stepL sc mi (.iushr) n pc ls st I L R K = some g) : StepS p l e Rm s m args below meth c base D ay fx (mMaxL mi) pc ls st I L R K g := by
  obtain rfl : n = 1 := by simpa [insLen] using hn
  simp only [stepL, stB] at h
  split at h
  case h_2 => cases h
  case h_1 y x r =>
    simp only [bop, Option.map_some] at h
    cases h
    exact StepS.pure fun am H locs cells slots lc Q hr hl kk => lv_iushr C.1 C.2.1 hd (ofInt_toInt _).symm (kk lc hl)

set_option maxHeartbeats 4000000 in
theorem s_idiv (C : Ctx sc base D ay fx ax mi p Rm s m meth c) (hd : decode (mBytes mi) pc = .ok (.idiv, n)) (hn : insLen (.idiv) n = true) (hw : AMwf I L R K) (hst : okS K.2.2.1 st) (hls : okL K.2.2.1 ls) (h : stepL sc mi (.idiv) n pc ls st I L R K = some g) : StepS p l e Rm s m args below meth c base D ay fx (mMaxL mi) pc ls st I L R K g := by
  obtain rfl : n = 1 := by simpa [insLen] using hn
  simp only [stepL, stB] at h
  split at h
  case h_2 => cases h
  case h_1 y x r =>
    simp only [bop] at h
    split at h
    case isTrue => cases h
    case isFalse h0 =>
      simp only [Option.map_some] at h
      cases h
      exact StepS.pure fun am H locs cells slots lc Q hr hl kk => lv_idiv C.1 C.2.1 hd h0 (by have h9 := kk lc hl; rw [List.map_cons, cv_int] at h9; exact h9)

set_option maxHeartbeats 4000000 in
theorem s_irem (C : Ctx sc base D ay fx ax mi p Rm s m meth c) (hd : decode (mBytes mi) pc = .ok (.irem, n)) (hn : insLen (.irem) n = true) (hw : AMwf I L R K) (hst : okS K.2.2.1 st) (hls : okL K.2.2.1 ls) (h : stepL sc mi (.irem) n pc ls st I L R K = some g) : StepS p l e Rm s m args below meth c base D ay fx (mMaxL mi) pc ls st I L R K g := by
  obtain rfl : n = 1 := by simpa [insLen] using hn
  simp only [stepL, stB] at h
  split at h
  case h_2 => cases h
  case h_1 y x r =>
    simp only [bop] at h
    split at h
    case isTrue => cases h
    case isFalse h0 =>
      simp only [Option.map_some] at h
      cases h
      exact StepS.pure fun am H locs cells slots lc Q hr hl kk => lv_irem C.1 C.2.1 hd h0 (by have h9 := kk lc hl; rw [List.map_cons, cv_int] at h9; exact h9)

set_option maxHeartbeats 4000000 in
theorem s_ladd (C : Ctx sc base D ay fx ax mi p Rm s m meth c) (hd : decode (mBytes mi) pc = .ok (.ladd, n)) (hn : insLen (.ladd) n = true) (hw : AMwf I L R K) (hst : okS K.2.2.1 st) (hls : okL K.2.2.1 ls) (h : stepL sc mi (.ladd) n pc ls st I L R K = some g) : StepS p l e Rm s m args below meth c base D ay fx (mMaxL mi) pc ls st I L R K g := by
  obtain rfl : n = 1 := by simpa [insLen] using hn
  simp only [stepL, stQ] at h
  split at h
  case h_2 => cases h
  case h_1 y x r =>
    simp only [lop, Option.map_some] at h
    cases h
    exact StepS.pure fun am H locs cells slots lc Q hr hl kk => lv_ladd C.1 C.2.1 hd (kk lc hl)

set_option maxHeartbeats 4000000 in
theorem s_lsub (C : Ctx sc base D ay fx ax mi p Rm s m meth c) (hd : decode (mBytes mi) pc = .ok (.lsub, n)) (hn : insLen (.lsub) n = true) (hw : AMwf I L R K) (hst : okS K.2.2.1 st) (hls : okL K.2.2.1 ls) (h : stepL sc mi (.lsub) n pc ls st I L R K = some g) : StepS p l e Rm s m args below meth c base D ay fx (mMaxL mi) pc ls st I L R K g := by
  obtain rfl : n = 1 := by simpa [insLen] using hn
  simp only [stepL, stQ] at h
  split at h
  case h_2 => cases h
  case h_1 y x r =>
    simp only [lop, Option.map_some] at h
    cases h
    exact StepS.pure fun am H locs cells slots lc Q hr hl kk => lv_lsub C.1 C.2.1 hd (kk lc hl)

set_option maxHeartbeats 4000000 in
theorem s_land (C : Ctx sc base D ay fx ax mi p Rm s m meth c) (hd : decode (mBytes mi) pc = .ok (.land, n)) (hn : insLen (.land) n = true) (hw : AMwf I L R K) (hst : okS K.2.2.1 st) (hls : okL K.2.2.1 ls) (h : stepL sc mi (.land) n pc ls st I L R K = some g) : StepS p l e Rm s m args below meth c base D ay fx (mMaxL mi) pc ls st I L R K g := by
  obtain rfl : n = 1 := by simpa [insLen] using hn
  simp only [stepL, stQ] at h
  split at h
  case h_2 => cases h
  case h_1 y x r =>
    simp only [lop, Option.map_some] at h
    cases h
    exact StepS.pure fun am H locs cells slots lc Q hr hl kk => lv_land C.1 C.2.1 hd (kk lc hl)

set_option maxHeartbeats 4000000 in
theorem s_lor (C : Ctx sc base D ay fx ax mi p Rm s m meth c) (hd : decode (mBytes mi) pc = .ok (.lor, n)) (hn : insLen (.lor) n = true) (hw : AMwf I L R K) (hst : okS K.2.2.1 st) (hls : okL K.2.2.1 ls) (h : stepL sc mi (.lor) n pc ls st I L R K = some g) : StepS p l e Rm s m args below meth c base D ay fx (mMaxL mi) pc ls st I L R K g := by
  obtain rfl : n = 1 := by simpa [insLen] using hn
  simp only [stepL, stQ] at h
  split at h
  case h_2 => cases h
  case h_1 y x r =>
    simp only [lop, Option.map_some] at h
    cases h
    exact StepS.pure fun am H locs cells slots lc Q hr hl kk => lv_lor C.1 C.2.1 hd (kk lc hl)

set_option maxHeartbeats 4000000 in
theorem s_goto {off : Int} (C : Ctx sc base D ay fx ax mi p Rm s m meth c) (hd : decode (mBytes mi) pc = .ok (.goto off, n)) (hn : insLen (.goto off) n = true) (hw : AMwf I L R K) (hst : okS K.2.2.1 st) (hls : okL K.2.2.1 ls) (h : stepL sc mi (.goto off) n pc ls st I L R K = some g) : StepS p l e Rm s m args below meth c base D ay fx (mMaxL mi) pc ls st I L R K g := by
  obtain rfl : n = 3 := by simpa [insLen] using hn
  simp only [stepL] at h
  obtain ⟨t, ht, hg⟩ := Option.map_eq_some_iff.mp h
  cases hg
  exact StepS.pure fun am H locs cells slots lc Q hr hl kk => lv_goto C.1 C.2.1 hd (jmp_spec ht) (kk lc hl)

set_option maxHeartbeats 4000000 in
theorem s_ifCond {k : Jvm.ClassFile.Cond} {off : Int} (C : Ctx sc base D ay fx ax mi p Rm s m meth c) (hd : decode (mBytes mi) pc = .ok (.ifCond k off, n)) (hn : insLen (.ifCond k off) n = true) (hw : AMwf I L R K) (hst : okS K.2.2.1 st) (hls : okL K.2.2.1 ls) (h : stepL sc mi (.ifCond k off) n pc ls st I L R K = some g) : StepS p l e Rm s m args below meth c base D ay fx (mMaxL mi) pc ls st I L R K g := by
  obtain rfl : n = 3 := by simpa [insLen] using hn
  simp only [stepL] at h
  split at h
  case h_2 => cases h
  case h_1 x r =>
    split at h
    case h_2 => cases h
    case h_1 t ht =>
      have hj := jmp_spec ht
      have hx : inR x := hst (.inl x) List.mem_cons_self
      have HE : Int32.ofInt x = 0 ↔ x = 0 := eq_ofInt hx inR0
      have HL : Int32.ofInt x < 0 ↔ x < 0 := lt_ofInt hx inR0
      have HG : 0 ≤ Int32.ofInt x ↔ 0 ≤ x := le_ofInt inR0 hx
      have HM : 0 < Int32.ofInt x ↔ 0 < x := lt_ofInt inR0 hx
      have HN : Int32.ofInt x ≤ 0 ↔ x ≤ 0 := le_ofInt hx inR0
      cases k
      case eq =>
        split at h
        case isTrue hc =>
          cases h
          refine StepS.pure fun am H locs cells slots lc Q hr hl kk => lv_if_eq C.1 C.2.1 hd hj (fun _ => kk lc hl) (fun q => absurd ?_ q)
          simp only [cmpB, Bool.not_eq_true', decide_eq_false_iff_not, decide_eq_true_eq] at hc
          exact HE.mpr hc
        case isFalse hc =>
          cases h
          refine StepS.pure fun am H locs cells slots lc Q hr hl kk => lv_if_eq C.1 C.2.1 hd hj (fun q => absurd ?_ hc) (fun _ => kk lc hl)
          simp only [cmpB, Bool.not_eq_true', decide_eq_false_iff_not, decide_eq_true_eq]
          exact HE.mp q
      case ne =>
        split at h
        case isTrue hc =>
          cases h
          refine StepS.pure fun am H locs cells slots lc Q hr hl kk => lv_if_ne C.1 C.2.1 hd hj (fun _ => kk lc hl) (fun q => absurd q ?_)
          simp only [cmpB, Bool.not_eq_true', decide_eq_false_iff_not, decide_eq_true_eq] at hc
          exact fun w => hc (HE.mp w)
        case isFalse hc =>
          cases h
          refine StepS.pure fun am H locs cells slots lc Q hr hl kk => lv_if_ne C.1 C.2.1 hd hj (fun q => absurd ?_ hc) (fun _ => kk lc hl)
          simp only [cmpB, Bool.not_eq_true', decide_eq_false_iff_not, decide_eq_true_eq]
          exact fun w => q (HE.mpr w)
      case lt =>
        split at h
        case isTrue hc =>
          cases h
          refine StepS.pure fun am H locs cells slots lc Q hr hl kk => lv_if_lt C.1 C.2.1 hd hj (fun _ => kk lc hl) (fun q => absurd ?_ q)
          simp only [cmpB, Bool.not_eq_true', decide_eq_false_iff_not, decide_eq_true_eq] at hc
          exact HL.mpr hc
        case isFalse hc =>
          cases h
          refine StepS.pure fun am H locs cells slots lc Q hr hl kk => lv_if_lt C.1 C.2.1 hd hj (fun q => absurd ?_ hc) (fun _ => kk lc hl)
          simp only [cmpB, Bool.not_eq_true', decide_eq_false_iff_not, decide_eq_true_eq]
          exact HL.mp q
      case ge =>
        split at h
        case isTrue hc =>
          cases h
          refine StepS.pure fun am H locs cells slots lc Q hr hl kk => lv_if_ge C.1 C.2.1 hd hj (fun _ => kk lc hl) (fun q => absurd ?_ q)
          simp only [cmpB, Bool.not_eq_true', decide_eq_false_iff_not, decide_eq_true_eq] at hc
          exact HG.mpr (Int.not_lt.mp hc)
        case isFalse hc =>
          cases h
          refine StepS.pure fun am H locs cells slots lc Q hr hl kk => lv_if_ge C.1 C.2.1 hd hj (fun q => absurd ?_ hc) (fun _ => kk lc hl)
          simp only [cmpB, Bool.not_eq_true', decide_eq_false_iff_not, decide_eq_true_eq]
          exact Int.not_lt.mpr (HG.mp q)
      case gt =>
        split at h
        case isTrue hc =>
          cases h
          refine StepS.pure fun am H locs cells slots lc Q hr hl kk => lv_if_gt C.1 C.2.1 hd hj (fun _ => kk lc hl) (fun q => absurd ?_ q)
          simp only [cmpB, Bool.not_eq_true', decide_eq_false_iff_not, decide_eq_true_eq] at hc
          exact HM.mpr hc
        case isFalse hc =>
          cases h
          refine StepS.pure fun am H locs cells slots lc Q hr hl kk => lv_if_gt C.1 C.2.1 hd hj (fun q => absurd ?_ hc) (fun _ => kk lc hl)
          simp only [cmpB, Bool.not_eq_true', decide_eq_false_iff_not, decide_eq_true_eq]
          exact HM.mp q
      case le =>
        split at h
        case isTrue hc =>
          cases h
          refine StepS.pure fun am H locs cells slots lc Q hr hl kk => lv_if_le C.1 C.2.1 hd hj (fun _ => kk lc hl) (fun q => absurd ?_ q)
          simp only [cmpB, Bool.not_eq_true', decide_eq_false_iff_not, decide_eq_true_eq] at hc
          exact HN.mpr (Int.not_lt.mp hc)
        case isFalse hc =>
          cases h
          refine StepS.pure fun am H locs cells slots lc Q hr hl kk => lv_if_le C.1 C.2.1 hd hj (fun q => absurd ?_ hc) (fun _ => kk lc hl)
          simp only [cmpB, Bool.not_eq_true', decide_eq_false_iff_not, decide_eq_true_eq]
          exact Int.not_lt.mpr (HN.mp q)

set_option maxHeartbeats 4000000 in
theorem s_if_icmp {k : Jvm.ClassFile.Cond} {off : Int} (C : Ctx sc base D ay fx ax mi p Rm s m meth c) (hd : decode (mBytes mi) pc = .ok (.if_icmp k off, n)) (hn : insLen (.if_icmp k off) n = true) (hw : AMwf I L R K) (hst : okS K.2.2.1 st) (hls : okL K.2.2.1 ls) (h : stepL sc mi (.if_icmp k off) n pc ls st I L R K = some g) : StepS p l e Rm s m args below meth c base D ay fx (mMaxL mi) pc ls st I L R K g := by
  obtain rfl : n = 3 := by simpa [insLen] using hn
  simp only [stepL] at h
  split at h
  case h_2 => cases h
  case h_1 y x r =>
    split at h
    case h_2 => cases h
    case h_1 t ht =>
      have hj := jmp_spec ht
      have hy : inR y := hst (.inl y) List.mem_cons_self
      have hx : inR x := hst (.inl x) (List.mem_cons_of_mem _ List.mem_cons_self)
      have HE : Int32.ofInt x = Int32.ofInt y ↔ x = y := eq_ofInt hx hy
      have HL : Int32.ofInt x < Int32.ofInt y ↔ x < y := lt_ofInt hx hy
      have HG : Int32.ofInt y ≤ Int32.ofInt x ↔ y ≤ x := le_ofInt hy hx
      have HM : Int32.ofInt y < Int32.ofInt x ↔ y < x := lt_ofInt hy hx
      have HN : Int32.ofInt x ≤ Int32.ofInt y ↔ x ≤ y := le_ofInt hx hy
      cases k
      case eq =>
        split at h
        case isTrue hc =>
          cases h
          refine StepS.pure fun am H locs cells slots lc Q hr hl kk => lv_icmp_eq C.1 C.2.1 hd hj (fun _ => kk lc hl) (fun q => absurd ?_ q)
          simp only [cmpB, Bool.not_eq_true', decide_eq_false_iff_not, decide_eq_true_eq] at hc
          exact HE.mpr hc
        case isFalse hc =>
          cases h
          refine StepS.pure fun am H locs cells slots lc Q hr hl kk => lv_icmp_eq C.1 C.2.1 hd hj (fun q => absurd ?_ hc) (fun _ => kk lc hl)
          simp only [cmpB, Bool.not_eq_true', decide_eq_false_iff_not, decide_eq_true_eq]
          exact HE.mp q
      case ne =>
        split at h
        case isTrue hc =>
          cases h
          refine StepS.pure fun am H locs cells slots lc Q hr hl kk => lv_icmp_ne C.1 C.2.1 hd hj (fun _ => kk lc hl) (fun q => absurd q ?_)
          simp only [cmpB, Bool.not_eq_true', decide_eq_false_iff_not, decide_eq_true_eq] at hc
          exact fun w => hc (HE.mp w)
        case isFalse hc =>
          cases h
          refine StepS.pure fun am H locs cells slots lc Q hr hl kk => lv_icmp_ne C.1 C.2.1 hd hj (fun q => absurd ?_ hc) (fun _ => kk lc hl)
          simp only [cmpB, Bool.not_eq_true', decide_eq_false_iff_not, decide_eq_true_eq]
          exact fun w => q (HE.mpr w)
      case lt =>
        split at h
        case isTrue hc =>
          cases h
          refine StepS.pure fun am H locs cells slots lc Q hr hl kk => lv_icmp_lt C.1 C.2.1 hd hj (fun _ => kk lc hl) (fun q => absurd ?_ q)
          simp only [cmpB, Bool.not_eq_true', decide_eq_false_iff_not, decide_eq_true_eq] at hc
          exact HL.mpr hc
        case isFalse hc =>
          cases h
          refine StepS.pure fun am H locs cells slots lc Q hr hl kk => lv_icmp_lt C.1 C.2.1 hd hj (fun q => absurd ?_ hc) (fun _ => kk lc hl)
          simp only [cmpB, Bool.not_eq_true', decide_eq_false_iff_not, decide_eq_true_eq]
          exact HL.mp q
      case ge =>
        split at h
        case isTrue hc =>
          cases h
          refine StepS.pure fun am H locs cells slots lc Q hr hl kk => lv_icmp_ge C.1 C.2.1 hd hj (fun _ => kk lc hl) (fun q => absurd ?_ q)
          simp only [cmpB, Bool.not_eq_true', decide_eq_false_iff_not, decide_eq_true_eq] at hc
          exact HG.mpr (Int.not_lt.mp hc)
        case isFalse hc =>
          cases h
          refine StepS.pure fun am H locs cells slots lc Q hr hl kk => lv_icmp_ge C.1 C.2.1 hd hj (fun q => absurd ?_ hc) (fun _ => kk lc hl)
          simp only [cmpB, Bool.not_eq_true', decide_eq_false_iff_not, decide_eq_true_eq]
          exact Int.not_lt.mpr (HG.mp q)
      case gt =>
        split at h
        case isTrue hc =>
          cases h
          refine StepS.pure fun am H locs cells slots lc Q hr hl kk => lv_icmp_gt C.1 C.2.1 hd hj (fun _ => kk lc hl) (fun q => absurd ?_ q)
          simp only [cmpB, Bool.not_eq_true', decide_eq_false_iff_not, decide_eq_true_eq] at hc
          exact HM.mpr hc
        case isFalse hc =>
          cases h
          refine StepS.pure fun am H locs cells slots lc Q hr hl kk => lv_icmp_gt C.1 C.2.1 hd hj (fun q => absurd ?_ hc) (fun _ => kk lc hl)
          simp only [cmpB, Bool.not_eq_true', decide_eq_false_iff_not, decide_eq_true_eq]
          exact HM.mp q
      case le =>
        split at h
        case isTrue hc =>
          cases h
          refine StepS.pure fun am H locs cells slots lc Q hr hl kk => lv_icmp_le C.1 C.2.1 hd hj (fun _ => kk lc hl) (fun q => absurd ?_ q)
          simp only [cmpB, Bool.not_eq_true', decide_eq_false_iff_not, decide_eq_true_eq] at hc
          exact HN.mpr (Int.not_lt.mp hc)
        case isFalse hc =>
          cases h
          refine StepS.pure fun am H locs cells slots lc Q hr hl kk => lv_icmp_le C.1 C.2.1 hd hj (fun q => absurd ?_ hc) (fun _ => kk lc hl)
          simp only [cmpB, Bool.not_eq_true', decide_eq_false_iff_not, decide_eq_true_eq]
          exact Int.not_lt.mpr (HN.mp q)

set_option maxHeartbeats 4000000 in
theorem s_tableswitch {d lo hi : Int} {offs : Array Int} (C : Ctx sc base D ay fx ax mi p Rm s m meth c) (hd : decode (mBytes mi) pc = .ok (.tableswitch d lo hi offs, n)) (hn : insLen (.tableswitch d lo hi offs) n = true) (hw : AMwf I L R K) (hst : okS K.2.2.1 st) (hls : okL K.2.2.1 ls) (h : stepL sc mi (.tableswitch d lo hi offs) n pc ls st I L R K = some g) : StepS p l e Rm s m args below meth c base D ay fx (mMaxL mi) pc ls st I L R K g := by
  simp only [stepL] at h
  split at h
  case h_2 => cases h
  case h_1 x r =>
    have hx : inR x := hst (.inl x) List.mem_cons_self
    split at h
    case isTrue ho =>
      obtain ⟨t, ht, hg⟩ := Option.map_eq_some_iff.mp h
      cases hg
      exact StepS.pure fun am H locs cells slots lc Q hr hl kk => lv_tableOut C.1 C.2.1 hd (by rw [hx]; exact ho) (jmp_spec ht) (kk lc hl)
    case isFalse ho =>
      split at h
      case h_2 => cases h
      case h_1 off hof =>
        obtain ⟨t, ht, hg⟩ := Option.map_eq_some_iff.mp h
        cases hg
        exact StepS.pure fun am H locs cells slots lc Q hr hl kk => lv_tableIn C.1 C.2.1 hd (by rw [hx]; exact fun q => ho (Or.inl q)) (by rw [hx]; exact fun q => ho (Or.inr q)) (by rw [hx]; exact hof) (jmp_spec ht) (kk lc hl)

set_option maxHeartbeats 4000000 in
theorem s_lookupswitch {d : Int} {ps : Array (Int × Int)} (C : Ctx sc base D ay fx ax mi p Rm s m meth c) (hd : decode (mBytes mi) pc = .ok (.lookupswitch d ps, n)) (hn : insLen (.lookupswitch d ps) n = true) (hw : AMwf I L R K) (hst : okS K.2.2.1 st) (hls : okL K.2.2.1 ls) (h : stepL sc mi (.lookupswitch d ps) n pc ls st I L R K = some g) : StepS p l e Rm s m args below meth c base D ay fx (mMaxL mi) pc ls st I L R K g := by
  simp only [stepL] at h
  split at h
  case h_2 => cases h
  case h_1 x r =>
    have hx : inR x := hst (.inl x) List.mem_cons_self
    split at h
    case isFalse => cases h
    case isTrue hp =>
      obtain ⟨t, ht, hg⟩ := Option.map_eq_some_iff.mp h
      cases hg
      exact StepS.pure fun am H locs cells slots lc Q hr hl kk => lv_lookup C.1 C.2.1 hd hp (by rw [hx]) (jmp_spec ht) (kk lc hl)

end
