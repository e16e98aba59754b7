/-! THE SOUNDNESS OF AM: what a run computes the machine does -/
def StrMet (sc : Nat × (Nat → Int)) : Prop := ∀ (cmi : Nat) (as : List AV) (x : Int) (I : IH) (L : LH) (R : RH) (K : KH) (base : Nat) (D : va_G) (ay fx ax am : Nat → Nat) (l : Launch), isStr cmi = true → amPrim cmi as = some x → Met l (mName cmi) (wsM cmi) (rmOf cmi 0 0) (PcA base D ay fx ax sc am I L R K as) (QcA base D ay fx am K.2.2.1 (some (aI x)) I L R K) 0 0 (fun q => base ≤ q)
theorem own_name {ci N : Nat} {Cn : String} {T : u_T} (hc : amCl[ci]? = some (Cn, T, N)) : oName ci = Cn := by
  have h13 := cl_lt hc
  match ci, h13, hc with
  | 0, _, hc => cases hc; rfl
  | 1, _, hc => cases hc; rfl
  | 2, _, hc => cases hc; rfl
  | 3, _, hc => cases hc; rfl
  | 4, _, hc => cases hc; rfl
  | 5, _, hc => cases hc; rfl
  | 6, _, hc => cases hc; rfl
  | 7, _, hc => cases hc; rfl
  | 8, _, hc => cases hc; rfl
  | 9, _, hc => cases hc; rfl
  | 10, _, hc => cases hc; rfl
  | 11, _, hc => cases hc; rfl
  | 12, _, hc => cases hc; rfl
  | k + 13, h, _ => exact absurd h (by omega)
theorem mm_nest {o idx cmi ks : Nat} {nest : Bool} (hm : isMM cmi = true) (h : cSite o idx = some (cmi, ks, nest)) : nest = false := by
  have h2 : ∀ e ∈ cTab, isMM e.2.1 = true → e.2.2.2 = false := by decide +kernel
  unfold cSite at h
  split at h
  case isFalse => cases h
  case isTrue => exact h2 _ (al_mem h) hm
section
variable {sc : Nat × (Nat → Int)} {I : IH} {L : LH} {R : RH} {K : KH} {rv : Option AV} {I1 : IH} {L1 : LH} {R1 : RH} {K1 : KH} {base : Nat} {D : va_G} {ay fx ax am : Nat → Nat}
variable {p : Program} {l : Launch} {e : Env} {Rm : Room} {s : State} {m : MethodId} {args : Array Value} {below : List Frame} {meth : Method} {c : Code} {H : Heap} {locs : List Loc} {cells slots : Nat} {lc : Array Slot} {Q : State → Prop} {mi pc : Nat}
theorem catS_map (r : List AV) : ((r.map (cv am fx)).map fun v => v.category).sum = catS r := by
  unfold catS
  rw [List.map_map]
  congr 1
  apply List.map_congr_left
  intro v _
  exact cv_cat am fx v
theorem PcA.of (hSF : SF base D ay fx ax sc s) (hr : Rel base D ay s am I L R K H locs) (as : List AV) : ∀ U : State, U.heap = H → s.WarmedH U.vm → PcA base D ay fx ax sc am I L R K as ((as.map (cv am fx)).toArray) U := fun U hU hW => ⟨rfl, hSF.to hr.2.2 hU hW, by rw [hU]; exact hr.1, hr.2.1⟩
/-- a call of a method with a contract -/
theorem am_call (C : Ctx sc base D ay fx ax mi p Rm s m meth c) (hr : Rel base D ay s am I L R K H locs) (hl : lc.size = mMaxL mi) {i : Instr} {idx ks cmi mc ms : Nat} {st as r : List AV} (hw : AMwf I L R K) (hst : okS K.2.2.1 st) (hd : decode (mBytes mi) pc = .ok (i, 3)) (hks : (ks = 0 ∧ i = .invokestatic idx) ∨ (ks = 1 ∧ i = .invokevirtual idx) ∨ (ks = 2 ∧ i = .invokespecial idx)) (hco : callOf mi idx ks st K = some (cmi, as, r))
    (hM : Met l (mName cmi) (wsM cmi) (rmOf cmi mc ms) (PcA base D ay fx ax sc am I L R K as) (QcA base D ay fx am K.2.2.1 rv I1 L1 R1 K1) mc ms (fun q => base ≤ q)) (hf : cells + mc ≤ Rm.cells ∧ slots + ms ≤ Rm.slots)
    (hstr : ∀ j as2, as = aF j :: as2 → ks ≠ 0 → ∃ cell : Cell, H[fx j]? = some cell ∧ cell.vm.isStatics = false ∧ s.vm.findClass (mName cmi).cls = some cell.cls)
    (kk : ∀ (am1 : Nat → Nat) (H1 : Heap) (locs1 : List Loc), (∀ a, a < K.2.2.1 → am1 a = am a) → Rel base D ay s am1 I1 L1 R1 K1 H1 locs1 → W p l e Rm s m args below meth c H1 locs1 (cells + mc) (slots + ms) Q (F0 m (pc + 3) lc ((rv.map (cv am1 fx)).toList ++ r.map (cv am fx)))) : W p l e Rm s m args below meth c H locs cells slots Q (F0 m pc lc (st.map (cv am fx))) := by
  obtain ⟨nest, hc1, hlv, hst2, hlen, hcat, -, hrecv⟩ := callOf_spec hco
  obtain ⟨hmo, hlink, hkind⟩ := cSite_spec hc1
  have hT := C.2.2.2.2.2.2.2.1
  have hpre := PcA.of (as := as) C.2.2.2.2.2.2.2 hr
  have hroom := lv_room (m := m) (pc := pc) (ls := lc) (rest := st.map (cv am fx)) (st := r.map (cv am fx)) (by rw [catS_map]; exact hcat)
  have fix : CallFix p m c (mBytes mi) (mMaxL mi) s args [] (oName (mOwn mi)) := ⟨C.1, C.2.1, C.2.2.1, C.2.2.2.1, fun w hw => by cases hw⟩
  subst hst2
  rcases hks with ⟨rfl, rfl⟩ | ⟨rfl, rfl⟩ | ⟨rfl, rfl⟩
  · have hn : (as.map (cv am fx)).length = mArgs cmi := by rw [List.length_map, hlen]; rfl
    have hstk : (as.reverse ++ r).map (cv am fx) = (as.map (cv am fx)).reverse ++ r.map (cv am fx) := by rw [List.map_append, List.map_reverse]
    rw [hstk] at hroom ⊢
    cases nest with
    | false => exact am_go hr (va_runS fix hM ⟨am_callB C hmo hlv hlink, hT.use hkind rfl args⟩ ⟨PcA.blind, hpre⟩ rfl hn hl rfl hroom hd hf) kk
    | true => exact am_go hr (va_runSN fix hM ⟨am_callN C hmo hlv hlink, hT.use hkind rfl args, trivial⟩ ⟨PcA.blind, hpre⟩ rfl hn hl rfl hroom hd hf) kk
  all_goals
    have hrec : ∃ (v : AV) (as2 : List AV) (b : Nat), as = v :: as2 ∧ cv am fx v = .ref b ∧ ∃ cell : Cell, H[b]? = some cell ∧ cell.vm.isStatics = false ∧ s.vm.findClass (mName cmi).cls = some cell.cls := by
      unfold recvOK at hrecv
      split at hrecv
      case h_1 a as2 =>
        refine ⟨_, as2, am a, rfl, rfl, ?_⟩
        have hka : K.1 a = mOwn cmi ∧ mOwn cmi < 13 := by simpa using hrecv
        obtain ⟨hka, hlt⟩ := hka
        have ha : a < K.2.2.1 := hst (aR (some a)) (by simp)
        obtain ⟨q, hq⟩ : ∃ q, amCl[mOwn cmi]? = some q := ⟨_, List.getElem?_eq_getElem hlt⟩
        obtain ⟨Cn, T, N⟩ := q
        have hr1 := va_recv C.2.2.2.2.2.2.2.2.1 hr.1 hq (am_at hka (cellO_obj hka hq) ha)
        rw [show (mName cmi).cls = Cn by rw [hmo.2.2.2.2.2.1]; exact own_name hq]
        exact hr1
      case h_2 j as2 => exact ⟨_, as2, fx j, rfl, rfl, hstr j as2 rfl (by decide)⟩
      case h_3 => cases hrecv
    obtain ⟨v, as2, b, rfl, hvb, hcell⟩ := hrec
    have hn : (as2.map (cv am fx)).length = mArgs cmi := by
      rw [List.length_map]
      have h2 : as2.length + 1 = mArgs cmi + 1 := hlen
      omega
    have hstk : ((v :: as2).reverse ++ r).map (cv am fx) = (as2.map (cv am fx)).reverse ++ .ref b :: r.map (cv am fx) := by rw [List.map_append, List.map_reverse, List.map_cons, hvb, List.reverse_cons, List.append_assoc]; rfl
    rw [hstk] at hroom ⊢
    rw [List.map_cons, hvb] at hpre
  · cases nest with
    | false => exact am_go hr (va_runV fix hM ⟨am_callB C hmo hlv hlink, hT.use hkind.1 rfl args, hT.use hkind.2 rfl args⟩ ⟨PcA.blind, hcell, hpre⟩ rfl hn hl rfl hroom hd hf) kk
    | true => exact am_go hr (va_runVN fix hM ⟨am_callN C hmo hlv hlink, hT.use hkind.1 rfl args, hT.use hkind.2 rfl args⟩ ⟨PcA.blind, hcell, hpre⟩ rfl hn hl rfl hroom hd hf) kk
  · cases nest with
    | false =>
      have hB := am_callB (args := args) (mc := mc) (ms := ms) C hmo hlv hlink
      rw [hkind.2.2] at hB
      exact am_go hr (va_runI fix hM ⟨hB, hkind.2.1, hT.use hkind.1 rfl args⟩ ⟨PcA.blind, hpre⟩ rfl hn hl rfl hroom hd hf) kk
    | true =>
      have hB := am_callN (args := args) (mc := mc) (ms := ms) C hmo hlv hlink
      rw [hkind.2.2] at hB
      exact am_go hr (va_runIN fix hM ⟨hB, hkind.2.1, hT.use hkind.1 rfl args⟩ ⟨PcA.blind, hpre⟩ rfl hn hl rfl hroom hd hf) kk
theorem str_recvP (C : Ctx sc base D ay fx ax mi p Rm s m meth c) (hr : Rel base D ay s am I L R K H locs) {cmi j : Nat} {as2 : List AV} {x : Int} (hp : amPrim cmi (aF j :: as2) = some x) (hstr : isStr cmi = true) : ∃ cell : Cell, H[fx j]? = some cell ∧ cell.vm.isStatics = false ∧ s.vm.findClass (mName cmi).cls = some cell.cls := by
  have hj : ∃ j', j = j' + 1 ∧ j' < 16 := by
    unfold amPrim at hp
    split at hp
    case h_1 j1 he =>
      cases he
      split at hp
      case isFalse => cases hp
      case isTrue =>
        obtain ⟨b, hb, -⟩ := Option.map_eq_some_iff.mp hp
        exact ⟨j1, rfl, (List.getElem?_eq_some_iff.mp hb).1⟩
    case h_2 j1 k he =>
      cases he
      split at hp
      case isFalse => cases hp
      case isTrue =>
        split at hp
        case h_2 => cases hp
        case h_1 b hb => exact ⟨j1, rfl, (List.getElem?_eq_some_iff.mp hb).1⟩
    case h_3 => cases hp
  obtain ⟨j', rfl, hj⟩ := hj
  have hX := C.2.2.2.2.2.2.2.2.2.1
  have hcls : (mName cmi).cls = "java/lang/String" := by
    unfold isStr at hstr
    simp only [Bool.or_eq_true, beq_iff_eq] at hstr
    rcases hstr with rfl | rfl <;> decide +kernel
  rw [hcls]
  exact vk_recv (adK := fun j => fx (j + 1)) (i := j') hX.1 hj hr.2.2
end
