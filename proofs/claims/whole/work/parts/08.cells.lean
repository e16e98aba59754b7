/-! the steps that read, write or make cells -/
def fLink (o idx k : Nat) (C : String) (T : u_T) (nest : Bool) : Prop := match nest with
  | false => Cond.fieldLink (oName o) idx C (T k).2.1 (T k).2.2.1 ∈ lw_tbl
  | true => Cond.fieldLinkNest (oName o) idx C (T k).2.1 (T k).2.2.1 RX11 ∈ lw_tbl
theorem fSite_spec {o idx ci k : Nat} {nest : Bool} (h : fSite o idx = some (ci, k, nest)) : ∃ (C : String) (T : u_T) (N : Nat), amCl[ci]? = some (C, T, N) ∧ k < N ∧ (T k).1 = C ∧ fLink o idx k C T nest := by
  unfold fSite at h
  split at h
  case isFalse => cases h
  case isTrue hi =>
    obtain ⟨o', i', C, T, N, he, h2, h3, h4, h5, h6⟩ := ftab_ok _ (al_mem h)
    obtain ⟨rfl, rfl⟩ := key_eq he hi h2
    exact ⟨C, T, N, h3, h4, h5, h6⟩
theorem nSite_spec {o idx ci : Nat} (h : nSite o idx = some ci) : ∃ (C : String) (T : u_T) (N : Nat), amCl[ci]? = some (C, T, N) ∧ Cond.classLink (oName o) idx C ∈ lw_tbl ∧ Cond.instantiable C N ∈ lw_tbl ∧ Cond.initialized C ∈ lw_tbl := by
  unfold nSite at h
  split at h
  case isFalse => cases h
  case isTrue hi =>
    obtain ⟨o', i', C, T, N, he, h2, h3⟩ := ntab_ok _ (al_mem h)
    obtain ⟨rfl, rfl⟩ := key_eq he hi h2
    exact ⟨C, T, N, h3⟩
theorem aSite_spec {o idx k : Nat} (h : aSite o idx = some k) : (k = 103 ∧ Cond.classLink (oName o) idx RX4 ∈ lw_tbl) ∨ (k = 104 ∧ Cond.classLink (oName o) idx RX9 ∈ lw_tbl) := by
  unfold aSite at h
  split at h
  case isFalse => cases h
  case isTrue hi =>
    obtain ⟨o', i', he, h2, h3⟩ := atab_ok _ (al_mem h)
    obtain ⟨rfl, rfl⟩ := key_eq he hi h2
    exact h3
theorem uSite_spec {o idx k : Nat} (h : uSite o idx = some k) : Cond.classLink (oName o) idx "[[I" ∈ lw_tbl := by
  unfold uSite at h
  split at h
  case isFalse => cases h
  case isTrue hi =>
    obtain ⟨o', i', he, h2, -, h3⟩ := utab_ok _ (al_mem h)
    obtain ⟨rfl, rfl⟩ := key_eq he hi h2
    exact h3
theorem clAt_eq {ci : Nat} {q : vw_C} (h : amCl[ci]? = some q) : clAt ci = q := by
  unfold clAt
  rw [List.getD_eq_getElem?_getD, h]
  rfl
theorem cl_lt {ci : Nat} {q : vw_C} (h : amCl[ci]? = some q) : ci < 13 := (List.getElem?_eq_some_iff.mp h).1
theorem lay_good {C : String} {T : u_T} {N : Nat} : ∀ w ∈ u_ws C T N, goodWord w = true := by
  intro w h
  obtain ⟨k, -, rfl⟩ := List.mem_map.mp h
  unfold u_lay
  split <;> rfl
theorem cellO_obj {ay : Nat → ClassId} {am : Nat → Nat} {I : IH} {L : LH} {R : RH} {K : KH} {a ci N : Nat} {C : String} {T : u_T} (h : K.1 a = ci) (hc : amCl[ci]? = some (C, T, N)) : cellO ay am I L R K a = .inr (ci, (List.range N).map fun k => fval am I R ci a k) := by
  have h1 := cl_lt hc
  have h2 : nFld ci = N := by unfold nFld; rw [clAt_eq hc]
  unfold cellO
  rw [h, if_pos (show ci < 100 by omega), h2]
theorem fs_get {N k : Nat} {f : Nat → Value} (h : k < N) : ((List.range N).map f)[k]? = some (f k) := by
  rw [List.getElem?_map, List.getElem?_range h]
  rfl
theorem fs_set {N k : Nat} {f f1 : Nat → Value} {v : Value} (h : ∀ j, f1 j = if j = k then v else f j) : ((List.range N).map f).set k v = (List.range N).map f1 := by
  apply List.ext_getElem?
  intro j
  by_cases hj : j < N
  · rw [fs_get hj, h j]
    by_cases e : j = k
    · subst e
      rw [if_pos rfl, List.getElem?_set_self (by simpa using hj)]
    · rw [if_neg e, List.getElem?_set_ne (fun q => e q.symm), fs_get hj]
  · rw [List.getElem?_eq_none (by simp; omega), List.getElem?_eq_none (by simp; omega)]
theorem cv_ref {am fx : Nat → Nat} {r : Option Nat} : cv am fx (aR r) = va_rf (r.map am) := by cases r <;> rfl
theorem setF_ne {α : Type} {f : Nat → Nat → α} {a b i : Nat} {v : α} (h : b ≠ a) : setF f a i v b = f b := by
  funext j
  exact if_neg fun q => h q.1
theorem setF_at {α : Type} {f : Nat → Nat → α} {a i j : Nat} {v : α} : setF f a i v a j = if j = i then v else f a j := by
  unfold setF
  by_cases h : j = i <;> simp [h]
theorem cellO_I {ay : Nat → ClassId} {am : Nat → Nat} {I I1 : IH} {L L1 : LH} {R R1 : RH} {K : KH} {b : Nat} (h : I1 b = I b) (h2 : L1 b = L b) (h3 : R1 b = R b) : cellO ay am I1 L1 R1 K b = cellO ay am I L R K b := by
  unfold cellO fval
  simp only [h, h2, h3]
section
variable {p : Program} {l : Launch} {e : Env} {Rm : Room} {s : State} {m : MethodId} {args : Array Value} {below : List Frame} {meth : Method} {c : Code} {base : Nat} {D : va_G} {ay fx ax : Nat → Nat} {sc : Nat × (Nat → Int)} {mi n pc : Nat} {ls : ALs} {st : List AV} {I : IH} {L : LH} {R : RH} {K : KH} {g : ACfg}
variable {am : Nat → Nat} {H : Heap} {locs : List Loc} {cells slots : Nat} {lc : Array Slot} {Q : State → Prop} {rest : List Value}
theorem am_hts (C : Ctx sc base D ay fx ax mi p Rm s m meth c) {ci N : Nat} {Cn : String} {T : u_T} (hc : amCl[ci]? = some (Cn, T, N)) : ∀ w ∈ u_ws Cn T N, w.before args s = true := fun w hw => C.2.2.2.2.2.2.2.1.use ((cls_ok _ (List.mem_of_getElem? hc)).1 w hw) (lay_good w hw) args
theorem am_getf (C : Ctx sc base D ay fx ax mi p Rm s m meth c) (hr : Rel base D ay s am I L R K H locs) {idx ci k a : Nat} {nest : Bool} (hf : fSite (mOwn mi) idx = some (ci, k, nest)) (hk : K.1 a = ci) (ha : a < K.2.2.1) (hd : decode (mBytes mi) pc = .ok (.getfield idx, 3))
    (kk : W p l e Rm s m args below meth c H locs cells slots Q (F0 m (pc + 3) lc (fval am I R ci a k :: rest))) : W p l e Rm s m args below meth c H locs cells slots Q (F0 m pc lc (.ref (am a) :: rest)) := by
  obtain ⟨Cn, T, N, hc, hkN, hT, hl⟩ := fSite_spec hf
  have he : (wsO ay am I L R K)[a]? = some (am a, .inr (ci, (List.range N).map fun k => fval am I R ci a k)) := by rw [wsO_get ha, cellO_obj hk hc]
  cases nest with
  | false => exact va_get (D := D) (cl := amCl) (tys := tysO ay) (ci := ci) (C := Cn) (T := T) (N := N) (ref := Cn) C.1 C.2.1 (am_hts C hc) (fun _ h => h) C.2.2.2.1 C.2.2.2.2.2.2.2.2.1 hr.1 a he hc k hkN (C.2.2.2.2.2.2.2.1.use hl rfl args) (fun x h => by rw [hT] at h; exact h) (fs_get hkN) hd kk
  | true => exact va_getN (D := D) (cl := amCl) (tys := tysO ay) (ci := ci) (C := Cn) (T := T) (N := N) (ref := Cn) (host := RX11) C.1 C.2.1 (am_hts C hc) (fun _ h => h) C.2.2.2.1 C.2.2.2.2.2.2.2.2.1 hr.1 a he hc k hkN (va_Nw.use rfl (C.2.2.2.2.2.2.2.1.2.1 _ hl rfl)) (fun x h => by rw [hT] at h; exact h) (fs_get hkN) hd kk
theorem am_putf (C : Ctx sc base D ay fx ax mi p Rm s m meth c) (hr : Rel base D ay s am I L R K H locs) {idx ci k a : Nat} {nest : Bool} (hf : fSite (mOwn mi) idx = some (ci, k, nest)) (hk : K.1 a = ci) (ha : a < K.2.2.1) (hfin : fFin ci k = false ∨ (mOwn mi = ci ∧ nest = false ∧ (mName mi).name = "<init>")) {v : Value} (hv : ∀ ty, parseFieldDescriptor ((clAt ci).2.1 k).2.2.1 = some ty → narrow ty v = v ∧ fits ty v = true) {I1 : IH} {R1 : RH} (hset : ∀ b, b ≠ a → I1 b = I b ∧ R1 b = R b) (hfv : ∀ j, fval am I1 R1 ci a j = if j = k then v else fval am I R ci a j) (hd : decode (mBytes mi) pc = .ok (.putfield idx, 3))
    (kk : ∀ (H1 : Heap) (locs1 : List Loc), Rel base D ay s am I1 L R1 K H1 locs1 → W p l e Rm s m args below meth c H1 locs1 cells slots Q (F0 m (pc + 3) lc rest)) : W p l e Rm s m args below meth c H locs cells slots Q (F0 m pc lc (v :: .ref (am a) :: rest)) := by
  obtain ⟨Cn, T, N, hc, hkN, hT, hl⟩ := fSite_spec hf
  have hcl := clAt_eq hc
  have he : (wsO ay am I L R K)[a]? = some (am a, .inr (ci, (List.range N).map fun k => fval am I R ci a k)) := by rw [wsO_get ha, cellO_obj hk hc]
  have hws : (wsO ay am I L R K).set a (am a, .inr (ci, ((List.range N).map fun k => fval am I R ci a k).set k v)) = wsO ay am I1 L R1 K :=
    wsO_set ha (fun b hb => cellO_I (hset b hb).1 rfl (hset b hb).2) (by rw [cellO_obj hk hc, fs_set hfv])
  have hcls := cls_ok _ (List.mem_of_getElem? hc)
  have hty : ∀ j, j < N → parseFieldDescriptor (T j).2.2.1 = some ((parseFieldDescriptor (T j).2.2.1).getD .int) := fun j hj => by
    have h1 := hcls.2.1 j hj
    cases h2 : parseFieldDescriptor (T j).2.2.1 with
    | none => rw [h2] at h1; cases h1
    | some ty => rfl
  have hvv := hv _ (by rw [hcl]; exact hty k hkN)
  have hff : fFin ci k = (T k).2.2.2 := by unfold fFin; rw [hcl]
  have fin : ∀ (H1 : Heap) (locs1 : List Loc), va_P D amCl ((wsO ay am I L R K).set a (am a, .inr (ci, ((List.range N).map fun k => fval am I R ci a k).set k v))) H1 → va_D (fun q => base ≤ q) ((wsO ay am I L R K).set a (am a, .inr (ci, ((List.range N).map fun k => fval am I R ci a k).set k v))) → va_S (fun q => base ≤ q) s.heap H1 locs1 → W p l e Rm s m args below meth c H1 locs1 cells slots Q (F0 m (pc + 3) lc rest) := fun H1 locs1 hP hD hS => kk H1 locs1 ⟨hws ▸ hP, hws ▸ hD, hS⟩
  by_cases hfk : (T k).2.2.2 = false
  · cases nest with
    | false => exact va_put (D := D) (cl := amCl) (tys := tysO ay) (ci := ci) (C := Cn) (T := T) (N := N) (ref := Cn) C.1 C.2.1 (am_hts C hc) (fun _ h => h) _ hty hcls.2.2 C.2.2.2.1 C.2.2.2.2.2.2.2.2.1 hr.1 hr.2.1 hr.2.2 a he hc k hkN (C.2.2.2.2.2.2.2.1.use hl rfl args) (fun x h => by rw [hT] at h; exact h) hfk (hty k hkN) hvv.1 hvv.2 (by simpa using hkN) hd fin
    | true => exact va_putN (D := D) (cl := amCl) (tys := tysO ay) (ci := ci) (C := Cn) (T := T) (N := N) (ref := Cn) (host := RX11) C.1 C.2.1 (am_hts C hc) (fun _ h => h) _ hty hcls.2.2 C.2.2.2.1 C.2.2.2.2.2.2.2.2.1 hr.1 hr.2.1 hr.2.2 a he hc k hkN (va_Nw.use rfl (C.2.2.2.2.2.2.2.1.2.1 _ hl rfl)) (fun x h => by rw [hT] at h; exact h) hfk (hty k hkN) hvv.1 hvv.2 (by simpa using hkN) hd fin
  · have hfk : (T k).2.2.2 = true := by cases h : (T k).2.2.2 with
      | true => rfl
      | false => exact absurd h hfk
    rcases hfin with h | ⟨ho, hn, hi⟩
    · rw [hff, hfk] at h
      cases h
    · subst hn
      have hon : oName (mOwn mi) = Cn := by
        rw [ho]
        have h13 := cl_lt hc
        match ci, h13, hc with
        | 0, _, hc => cases hc; rfl
        | 1, _, hc => cases hc; rfl
        | 2, _, hc => cases hc; rfl
        | 3, _, hc => cases hc; rfl
        | 4, _, hc => cases hc; rfl
        | 5, _, hc => cases hc; rfl
        | 6, _, hc => cases hc; rfl
        | 7, _, hc => cases hc; rfl
        | 8, _, hc => cases hc; rfl
        | 9, _, hc => cases hc; rfl
        | 10, _, hc => cases hc; rfl
        | 11, _, hc => cases hc; rfl
        | 12, _, hc => cases hc; rfl
        | k + 13, h, _ => exact absurd h (by omega)
      exact va_putF (D := D) (cl := amCl) (tys := tysO ay) (ci := ci) (C := Cn) (T := T) (N := N) (ref := Cn) C.1 C.2.1 (am_hts C hc) (fun _ h => h) _ hty hcls.2.2 C.2.2.2.1 C.2.2.2.2.2.2.2.2.1 hr.1 hr.2.1 hr.2.2 a he hc k hkN (C.2.2.2.2.2.2.2.1.use hl rfl args) (fun x h => by rw [hT] at h; exact h) hfk (C.2.2.2.2.1 hi) (by rw [hT, hon]) (hty k hkN) hvv.1 hvv.2 (by simpa using hkN) hd fin
end
