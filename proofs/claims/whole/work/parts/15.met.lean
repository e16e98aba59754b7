/-! runs are the machine's: contracts of all methods -/
def RetI (mi : Nat) (i : Instr) (rv : Option AV) : Prop := (∃ x, i = .ireturn ∧ rv = some (aI x) ∧ retI mi x = true) ∨ (∃ a, i = .areturn ∧ rv = some (aR (some a)) ∧ retA mi = true) ∨ (∃ j, i = .areturn ∧ rv = some (aF j) ∧ retA mi = true) ∨ (i = .return_ ∧ rv = none ∧ mRet mi = none)
def PcA (base : Nat) (D : va_G) (ay fx ax : Nat → Nat) (sc : Nat × (Nat → Int)) (am : Nat → Nat) (I : IH) (L : LH) (R : RH) (K : KH) (as : List AV) : Array Value → State → Prop := fun v U => v = (as.map (cv am fx)).toArray ∧ SF base D ay fx ax sc U ∧ va_P D amCl (wsO ay am I L R K) U.heap ∧ va_D (fun q => base ≤ q) (wsO ay am I L R K)
def QcA (base : Nat) (D : va_G) (ay fx : Nat → Nat) (am : Nat → Nat) (sz : Nat) (rv : Option AV) (I1 : IH) (L1 : LH) (R1 : RH) (K1 : KH) : Array Value → State → Outcome → State → Prop := fun _ st o t => (∃ am1 : Nat → Nat, o = .returned (rv.map (cv am1 fx)) ∧ (∀ a, a < sz → am1 a = am a) ∧ va_P D amCl (wsO ay am1 I1 L1 R1 K1) t.heap ∧ va_D (fun q => base ≤ q) (wsO ay am1 I1 L1 R1 K1)) ∧ va_F (fun q => base ≤ q) st t
def rmOf (mi mc ms : Nat) : Room := { frames := mLvl mi, cells := mc, slots := ms, locals := 38 * mLvl mi }
def wsM (mi : Nat) : List Jvm.Cond := [Cond.code (mName mi) (mBytes mi) (mMaxL mi) (mRet mi)]
theorem PcA.blind {base : Nat} {D : va_G} {ay fx ax : Nat → Nat} {sc : Nat × (Nat → Int)} {am : Nat → Nat} {I : IH} {L : LH} {R : RH} {K : KH} {as : List AV} : FrameBlind (PcA base D ay fx ax sc am I L R K as) := fun a U g mk h =>
  ⟨h.1, h.2.1.to (U := U.calling g mk a) (H := U.heap) (locs := []) va_S.rf rfl (State.WarmedH.refl U), h.2.2⟩
def BodyS (sc : Nat × (Nat → Int)) (f : Nat) : Prop := ∀ (mi pc : Nat) (ls : ALs) (st : List AV) (I : IH) (L : LH) (R : RH) (K : KH) (rv : Option AV) (I1 : IH) (L1 : LH) (R1 : RH) (K1 : KH), amRun sc f mi pc ls st I L R K = some (rv, I1, L1, R1, K1) → AMwf I L R K → okS K.2.2.1 st → okL K.2.2.1 ls →
  ∀ (p : Program) (l : Launch) (e : Env) (Rm : Room) (s : State) (m : MethodId) (args : Array Value) (below : List Frame) (meth : Method) (c : Code) (base : Nat) (D : va_G) (ay fx ax am : Nat → Nat) (H : Heap) (locs : List Loc) (cells slots : Nat) (lc : Array Slot) (Q : State → Prop), Ctx sc base D ay fx ax mi p Rm s m meth c → Rel base D ay s am I L R K H locs → LRel am fx lc (mMaxL mi) ls → cells + (K1.2.2.1 - K.2.2.1) ≤ Rm.cells → slots + (K1.2.2.2 - K.2.2.2) ≤ Rm.slots →
  (∀ (am1 : Nat → Nat) (H1 : Heap) (locs1 : List Loc) (lc1 : Array Slot) (pc1 : Nat) (i : Instr), (∀ a, a < K.2.2.1 → am1 a = am a) → Rel base D ay s am1 I1 L1 R1 K1 H1 locs1 → decode (mBytes mi) pc1 = .ok (i, 1) → RetI mi i rv → W p l e Rm s m args below meth c H1 locs1 (cells + (K1.2.2.1 - K.2.2.1)) (slots + (K1.2.2.2 - K.2.2.2)) Q (F0 m pc1 lc1 (rv.toList.map (cv am1 fx)))) → W p l e Rm s m args below meth c H locs cells slots Q (F0 m pc lc (st.map (cv am fx)))
section
variable {sc : Nat × (Nat → Int)} {I : IH} {L : LH} {R : RH} {K : KH} {rv : Option AV} {I1 : IH} {L1 : LH} {R1 : RH} {K1 : KH} {base : Nat} {D : va_G} {ay fx ax am : Nat → Nat}
theorem retI_cases {mi : Nat} {x : Int} (h : retI mi x = true) : mRet mi = some .int ∨ (mRet mi = some .boolean ∧ (x = 0 ∨ x = 1)) := by
  unfold retI at h
  split at h
  case h_1 hr => exact Or.inl hr
  case h_2 hr =>
    refine Or.inr ⟨hr, ?_⟩
    simpa using h
  case h_3 => cases h
theorem retA_cases {mi : Nat} (h : retA mi = true) : ∃ n, mRet mi = some (.object n) := by
  unfold retA at h
  split at h
  case h_1 n hr => exact ⟨n, hr⟩
  case h_2 => cases h
set_option maxHeartbeats 4000000 in
theorem met_of {f cmi : Nat} {as : List AV} (hb : BodyS sc f) (hmo : mOK cmi) (hpl : plainName (mName cmi).cls = true) (hrun : amRun sc f cmi 0 (padL (mMaxL cmi) (mkL as)) [] I L R K = some (rv, I1, L1, R1, K1)) (hw : AMwf I L R K) (has : okS K.2.2.1 as) (hlen : (mkL as).length ≤ mMaxL cmi) (l : Launch) :
    Met l (mName cmi) (wsM cmi) (rmOf cmi (K1.2.2.1 - K.2.2.1) (K1.2.2.2 - K.2.2.2)) (PcA base D ay fx ax sc am I L R K as) (QcA base D ay fx am K.2.2.1 rv I1 L1 R1 K1) (K1.2.2.1 - K.2.2.1) (K1.2.2.2 - K.2.2.2) (fun q => base ≤ q) := by
  refine Met.ofW (cc := mBytes cmi) (maxL := mMaxL cmi) (ret := mRet cmi) (ws' := []) hpl rfl ?_
  intro p e s m args below meth c s₁ B hml hv
  obtain ⟨rfl, hSF, hP, hD⟩ := hv
  have hown : s.vm.findClass (oName (mOwn cmi)) = some m.cls := by
    rw [← hmo.2.2.2.2.2.1]
    exact findClass_of_methodNamed B.named
  have hC : Ctx sc base D ay fx ax cmi p (headSpec (wsM cmi) (rmOf cmi (K1.2.2.1 - K.2.2.1) (K1.2.2.2 - K.2.2.2))).room s m meth c := ⟨B.exec, B.bytes, hml, hown, fun h => ((name_of_methodNamed B.named B.method).1).trans h, B.notSynchronized, ⟨Nat.le_refl _, Nat.le_refl _⟩, hSF⟩
  rw [lg_entry_eq]
  refine hb cmi 0 _ [] I L R K rv I1 L1 R1 K1 hrun hw (fun v hv => by cases hv) (okL_pad has) p l e _ s m _ below meth c base D ay fx ax am s.heap [] 0 0 _ _ hC ⟨hP, hD, va_S.rf⟩ (entry_LRel hlen) (by rw [Nat.zero_add]; exact Nat.le_refl _) (by rw [Nat.zero_add]; exact Nat.le_refl _) fun am1 H1 locs1 lc1 pc1 i hag hr hd hri => ?_
  rw [Nat.zero_add, Nat.zero_add]
  have hq : ∀ t : State, t.heap = H1 → QcA base D ay fx am K.2.2.1 rv I1 L1 R1 K1 (as.map (cv am fx)).toArray s (.returned (rv.map (cv am1 fx))) t := fun t ht => ⟨⟨am1, rfl, hag, by rw [ht]; exact hr.1, hr.2.1⟩, hr.2.2.F ht⟩
  rcases hri with ⟨x, rfl, rfl, h⟩ | ⟨a, rfl, rfl, h⟩ | ⟨j, rfl, rfl, h⟩ | ⟨rfl, rfl, h⟩
  · rcases retI_cases h with hm | ⟨hm, h01⟩
    · exact W.iret (v := Int32.ofInt x) B.exec B.bytes (B.returns.trans hm) (fun t ht _ => hq t ht) hr.2.2.2.2 hd B.notSynchronized
    · exact W.zret (v := Int32.ofInt x) (ty := .boolean) B.exec B.bytes (B.returns.trans hm) (by rcases h01 with rfl | rfl <;> decide +kernel) (fun t ht _ => hq t ht) hr.2.2.2.2 hd B.notSynchronized
  · obtain ⟨n, hm⟩ := retA_cases h
    exact W.aret (v := .ref (am1 a)) B.exec B.bytes (B.returns.trans hm) (Or.inl ⟨n, rfl⟩) (Or.inr ⟨_, rfl⟩) (fun t ht _ => hq t ht) hr.2.2.2.2 hd B.notSynchronized
  · obtain ⟨n, hm⟩ := retA_cases h
    exact W.aret (v := .ref (fx j)) B.exec B.bytes (B.returns.trans hm) (Or.inl ⟨n, rfl⟩) (Or.inr ⟨_, rfl⟩) (fun t ht _ => hq t ht) hr.2.2.2.2 hd B.notSynchronized
  · exact W.vret B.exec B.bytes (B.returns.trans h) (fun t ht _ => hq t ht) hr.2.2.2.2 hd B.notSynchronized
section
variable {p : Program} {l : Launch} {e : Env} {Rm : Room} {s : State} {m : MethodId} {args : Array Value} {below : List Frame} {meth : Method} {c : Code} {H : Heap} {locs : List Loc} {cells slots : Nat} {lc : Array Slot} {Q : State → Prop} {mi pc : Nat}
theorem am_go {mc ms : Nat} {st0 rest : List Value} {aa : Array Value} (hr : Rel base D ay s am I L R K H locs) (hv : va_Run p l e Rm s m args below meth c H locs cells slots mc ms (F0 m pc lc st0) rest (QcA base D ay fx am K.2.2.1 rv I1 L1 R1 K1 aa) (fun q => base ≤ q))
    (kk : ∀ (am1 : Nat → Nat) (H1 : Heap) (locs1 : List Loc), (∀ a, a < K.2.2.1 → am1 a = am a) → Rel base D ay s am1 I1 L1 R1 K1 H1 locs1 → W p l e Rm s m args below meth c H1 locs1 (cells + mc) (slots + ms) Q (F0 m (pc + 3) lc ((rv.map (cv am1 fx)).toList ++ rest))) : W p l e Rm s m args below meth c H locs cells slots Q (F0 m pc lc st0) := by
  intro T hT X
  obtain ⟨v, st₀, t, T', L', h0, X', hL, e1, e2, ⟨⟨am1, hvv, hag, hP, hD⟩, hF⟩, st⟩ := hv T hT X
  cases hvv
  have hS := hr.2.2
  rw [va_F, h0] at hF
  have hS1 : va_S (fun q => base ≤ q) s.heap T'.heap (locs ++ L') := by
    rw [e1]
    refine ⟨Nat.le_trans hS.1 hF.1, fun q h1 h2 => ?_, fun q hq => ?_⟩
    · rw [hF.2 q (Nat.lt_of_lt_of_le h1 hS.1) h2]
      exact hS.2.1 q h1 h2
    · rcases List.mem_append.mp hq with h | h
      · exact hS.2.2 q h
      · exact hL q h
  obtain ⟨t2, a1, b1⟩ := kk am1 T'.heap (locs ++ L') hag ⟨by rw [e1]; exact hP, hD, hS1⟩ T' rfl X'
  exact ⟨t2, st t2 a1, b1⟩
theorem code_good {mi : Nat} : goodWord (Cond.code (mName mi) (mBytes mi) (mMaxL mi) (mRet mi)) = true := rfl
theorem am_six (C : Ctx sc base D ay fx ax mi p Rm s m meth c) {cmi mc ms : Nat} (hmo : mOK cmi) (hlv : mLvl cmi < mLvl mi) : (rmOf cmi mc ms).cells = mc ∧ (rmOf cmi mc ms).slots = ms ∧ (rmOf cmi mc ms).frames + 1 ≤ Rm.frames ∧ 8 + (mMaxL cmi + 11) + (rmOf cmi mc ms).locals ≤ Rm.locals ∧ (∀ w ∈ wsM cmi, ∀ (a' : Array Value) (U : State), s.WarmedH U.vm → w.before a' U = true) ∧ Cond.code (mName cmi) (mBytes cmi) (mMaxL cmi) (mRet cmi) ∈ wsM cmi := by
  have hr := C.2.2.2.2.2.2.1
  have hm := hmo.2.2.2.2.2.2
  refine ⟨rfl, rfl, ?_, ?_, fun w hw a' U hW => ?_, List.mem_cons_self⟩
  · show mLvl cmi + 1 ≤ Rm.frames
    omega
  · show 8 + (mMaxL cmi + 11) + 38 * mLvl cmi ≤ Rm.locals
    omega
  · rcases List.mem_cons.mp hw with rfl | hw
    · exact word_at hW (good_of_word code_good) (C.2.2.2.2.2.2.2.1.use hmo.2.1 rfl #[])
    · cases hw
theorem sig_n {cmi : Nat} (hmo : mOK cmi) : ∀ sig, parseMethodDescriptor (mName cmi).desc = some sig → mArgs cmi = sig.parameters.length := fun sig h => by
  have h1 := hmo.2.2.2.2.1
  rw [h] at h1
  exact (Option.some.inj h1).symm
theorem am_callB (C : Ctx sc base D ay fx ax mi p Rm s m meth c) {cmi idx mc ms : Nat} (hmo : mOK cmi) (hlv : mLvl cmi < mLvl mi) (hl : Cond.methodLink (oName (mOwn mi)) idx (mName cmi) ∈ lw_tbl) : CallB Rm s args (oName (mOwn mi)) idx (mName cmi) (mBytes cmi) (mMaxL cmi) (mRet cmi) (wsM cmi) (rmOf cmi mc ms) mc ms (mArgs cmi) := by
  obtain ⟨h1, h2, h3, h4, h5, h6⟩ := am_six (mc := mc) (ms := ms) C hmo hlv
  exact ⟨h1, h2, h3, h4, h5, h6, C.2.2.2.2.2.2.2.1.use hmo.2.1 rfl args, C.2.2.2.2.2.2.2.1.use hmo.2.2.1 rfl args, hmo.2.2.2.1, sig_n hmo, C.2.2.2.2.2.2.2.1.use hl rfl args⟩
theorem am_callN (C : Ctx sc base D ay fx ax mi p Rm s m meth c) {cmi idx mc ms : Nat} (hmo : mOK cmi) (hlv : mLvl cmi < mLvl mi) (hl : Cond.methodLinkNest (oName (mOwn mi)) idx (mName cmi) RX11 ∈ lw_tbl) : va_CN Rm s args (oName (mOwn mi)) idx (mName cmi) RX11 (mBytes cmi) (mMaxL cmi) (mRet cmi) (wsM cmi) (rmOf cmi mc ms) mc ms (mArgs cmi) :=
  ⟨am_six C hmo hlv, C.2.2.2.2.2.2.2.1.use hmo.2.1 rfl args, C.2.2.2.2.2.2.2.1.use hmo.2.2.1 rfl args, hmo.2.2.2.1, sig_n hmo, va_Nw.use rfl (C.2.2.2.2.2.2.2.1.2.1 _ hl rfl)⟩
end
end
