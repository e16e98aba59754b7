/-! String's methods: charAt, length of the String constants -/
def rmD (d : Nat) : Room := { frames := d, cells := 0, slots := 0, locals := 38 * d }
def PcS (base : Nat) (D : va_G) (ay fx ax : Nat → Nat) (sc : Nat × (Nat → Int)) (vs : List Value) : Array Value → State → Prop := fun v U => v = vs.toArray ∧ SF base D ay fx ax sc U
def QcS (o : Option Value) : Array Value → State → Outcome → State → Prop := fun _ st oc t => oc = .returned o ∧ t.heap = st.heap
section
variable {sc : Nat × (Nat → Int)} {base : Nat} {D : va_G} {ay fx ax : Nat → Nat}
variable {p : Program} {l : Launch} {e : Env} {Rm : Room} {s : State} {m : MethodId} {args : Array Value} {below : List Frame} {meth : Method} {c : Code} {H : Heap} {locs : List Loc} {cells slots : Nat} {lc : Array Slot} {Q : State → Prop} {pc : Nat} {cc : ByteArray} {nL : Nat}
theorem PcS.blind {vs : List Value} : FrameBlind (PcS base D ay fx ax sc vs) := fun a U g mk h =>
  ⟨h.1, h.2.to (U := U.calling g mk a) (H := U.heap) (locs := []) va_S.rf rfl (State.WarmedH.refl U)⟩
theorem str_go {o : Option Value} {st0 rest : List Value} {aa : Array Value} (hv : va_Run p l e Rm s m args below meth c H locs cells slots 0 0 (F0 m pc lc st0) rest (QcS o aa) (fun _ => False))
    (kk : W p l e Rm s m args below meth c H locs cells slots Q (F0 m (pc + 3) lc (o.toList ++ rest))) : W p l e Rm s m args below meth c H locs cells slots Q (F0 m pc lc st0) := by
  intro T hT X
  obtain ⟨v, st₀, t, T', L', h0, X', hL, e1, e2, ⟨hvv, hF⟩, st⟩ := hv T hT X
  cases hvv
  have hL0 : L' = [] := by
    cases L' with
    | nil => rfl
    | cons q r => exact (hL q List.mem_cons_self).elim
  subst hL0
  rw [List.append_nil] at X'
  obtain ⟨t2, a1, b1⟩ := kk T' (by rw [e1, hF, h0]) X'
  exact ⟨t2, st t2 a1, b1⟩
theorem strB (hT : TW fx s) {own : String} {idx n d na : Nat} {y : MethodName} {b : ByteArray} {r : Option FieldType} (hw : Cond.code y b n r ∈ lw_tbl) (hi : Cond.initialized y.cls ∈ lw_tbl) (hne : y.cls ≠ "java/lang/invoke/MethodHandle" ∧ y.cls ≠ "java/lang/invoke/VarHandle") (hn : (parseMethodDescriptor y.desc).map (fun d => d.parameters.length) = some na) (hl : Cond.methodLink own idx y ∈ lw_tbl) (hR : d + 1 ≤ Rm.frames ∧ 8 + (n + 11) + 38 * d ≤ Rm.locals) : CallB Rm s args own idx y b n r [Cond.code y b n r] (rmD d) 0 0 na :=
  ⟨rfl, rfl, hR.1, hR.2, (fun w hw' a' U hW => by
    rcases List.mem_cons.mp hw' with rfl | hw'
    · exact word_at hW (Or.inl rfl) (hT.use hw rfl #[])
    · cases hw'), List.mem_cons_self, hT.use hw rfl args, hT.use hi rfl args, hne, fun sig h => by rw [h] at hn; exact (Option.some.inj hn).symm, hT.use hl rfl args⟩
/-- a method of these: its start -/
theorem str_ofW {y : MethodName} {n d : Nat} {r : Option FieldType} {vs : List Value} {o : Option Value} (hpl : plainName y.cls = true) (hlen : (lg_sl vs).length ≤ n) (l : Launch)
    (body : ∀ (p : Program) (e : Env) (s : State) (m : MethodId) (below : List Frame) (meth : Method) (c : Code) (lc : Array Slot), p.tables.exec = Jvm.exec → c.code = cc → c.maxLocals = n → s.vm.findClass y.cls = some m.cls → meth.sig.returnType = r → meth.locks = false → SF base D ay fx ax sc s → lv_has lc n (lv_args 0 vs) → W p l e (rmD d) s m vs.toArray below meth c s.heap [] 0 0 (MQ below (QcS o) vs.toArray s 0 0 (fun _ => False)) (F0 m 0 lc [])) :
    Met l y [Cond.code y cc n r] (rmD d) (PcS base D ay fx ax sc vs) (QcS o) 0 0 (fun _ => False) := by
  refine Met.ofW (cc := cc) (maxL := n) (ret := r) (ws' := []) hpl rfl ?_
  intro p e s m args below meth c s₁ B hml hv
  obtain ⟨rfl, hSF⟩ := hv
  rw [lg_entry_eq]
  exact body p e s m below meth c _ B.exec B.bytes hml (findClass_of_methodNamed B.named) B.returns B.notSynchronized hSF (lv_entry vs hlen)
theorem nil_free : ∀ q ∈ ([] : List Loc), (fun _ => False : Addr → Prop) q.base := fun _ h => by cases h
set_option maxHeartbeats 4000000 in
/-- Preconditions.checkIndex: in range -/
theorem m_pci (l : Launch) {x y : Int32} (w : Option Nat) (h0 : ¬ x < 0) (h1 : x < y) : Met l yJ3_checkIndex_8e157 [Cond.code yJ3_checkIndex_8e157 cJ3_checkIndex_8e157 3 (some .int)] (rmD 0) (PcS base D ay fx ax sc [.int x, .int y, va_rf w]) (QcS (some (.int x))) 0 0 (fun _ => False) := by
  refine str_ofW (by decide +kernel) (by cases w <;> exact Nat.le_refl 3) l fun p e s m below meth c lc hx hb hml hown hr hlk hSF hl => ?_
  have hl : lv_has lc 3 [(0, .int x), (1, .int y), (2, va_rf w)] := hl
  refine lv_iload_n hx hb dJ3_checkIndex_8e157_0 rfl (lv_at hl 0 rfl) ?_
  refine lv_if_lt (tgt := 9) hx hb dJ3_checkIndex_8e157_1 (by decide) (fun q => absurd q h0) (fun _ => ?_)
  refine lv_iload_n hx hb dJ3_checkIndex_8e157_4 rfl (lv_at hl 0 rfl) ?_
  refine lv_iload_n hx hb dJ3_checkIndex_8e157_5 rfl (lv_at hl 1 rfl) ?_
  refine lv_icmp_lt (tgt := 16) hx hb dJ3_checkIndex_8e157_6 (by decide) (fun _ => ?_) (fun q => absurd h1 q)
  refine lv_iload_n hx hb dJ3_checkIndex_8e157_16 rfl (lv_at hl 0 rfl) ?_
  exact W.iret hx hb hr (fun t ht _ => ⟨rfl, ht⟩) nil_free dJ3_checkIndex_8e157_17 hlk
set_option maxHeartbeats 4000000 in
/-- String.checkIndex -/
theorem m_check (l : Launch) {x y : Int32} (h0 : ¬ x < 0) (h1 : x < y) : Met l yJ0_checkIndex_df160 [Cond.code yJ0_checkIndex_df160 cJ0_checkIndex_df160 2 none] (rmD 1) (PcS base D ay fx ax sc [.int x, .int y]) (QcS none) 0 0 (fun _ => False) := by
  refine str_ofW (by decide +kernel) (Nat.le_refl 2) l fun p e s m below meth c lc hx hb hml hown hr hlk hSF hl => ?_
  have hl : lv_has lc 2 [(0, .int x), (1, .int y)] := hl
  have hT := hSF.1
  refine lv_iload_n hx hb dJ0_checkIndex_df160_0 rfl (lv_at hl 0 rfl) ?_
  refine lv_iload_n hx hb dJ0_checkIndex_df160_1 rfl (lv_at hl 1 rfl) ?_
  have hz : ∃ w, va_Z "jdk/internal/util/Preconditions" "SIOOBE_FORMATTER" "Ljava/util/function/BiFunction;" (va_rf w) (fun q => base ≤ q) s s.heap := by
    rcases hSF.2.2.1.2.2.2.2 with h | ⟨t, h⟩
    · exact ⟨none, h⟩
    · exact ⟨some t, h⟩
  obtain ⟨w, hz⟩ := hz
  refine va_gets hx hb hz va_S.rf hown (hT.use sw_field_fmt rfl _) (fun _ h => h) dJ0_checkIndex_df160_2 ?_
  refine str_go (va_runS (As := [.int x, .int y, va_rf w]) (rest := []) ⟨hx, hb, hml, hown, fun w hw => by cases hw⟩ (m_pci (base := base) (D := D) (ay := ay) (fx := fx) (ax := ax) (sc := sc) l w h0 h1) (Ts := []) ⟨strB (na := 3) hT sw_code_pci sw_init_PR (by decide +kernel) (by decide +kernel) sw_link_pci (by decide), hT.use sw_stat_pci rfl _⟩ ⟨PcS.blind, fun U hU hW => ⟨rfl, hSF.to va_S.rf hU hW⟩⟩ rfl rfl hl.1 rfl (lv_room (by decide)) dJ0_checkIndex_df160_5 ⟨Nat.le_refl _, Nat.le_refl _⟩) ?_
  refine lv_pop hx hb dJ0_checkIndex_df160_8 rfl ?_
  exact W.vret hx hb hr (fun t ht _ => ⟨rfl, ht⟩) nil_free dJ0_checkIndex_df160_9 hlk
set_option maxHeartbeats 4000000 in
/-- StringLatin1.charAt of a constant's bytes -/
theorem m_l1 (l : Launch) {j : Nat} (hj : j < 16) {x : Int32} (h0 : ¬ x < 0) (h1 : x < Int32.ofNat (lensS.getD j 0)) (hin : vp_in x (lensS.getD j 0)) : Met l yJ1_charAt_3b067 [Cond.code yJ1_charAt_3b067 cJ1_charAt_3b067 2 (some .char)] (rmD 2) (PcS base D ay fx ax sc [.ref (ax j), .int x]) (QcS (some (.int ((bytsS.getD j []).getD x.toNatClampNeg 0 &&& 255)))) 0 0 (fun _ => False) := by
  refine str_ofW (by decide +kernel) (Nat.le_refl 2) l fun p e s m below meth c lc hx hb hml hown hr hlk hSF hl => ?_
  have hl : lv_has lc 2 [(0, .ref (ax j)), (1, .int x)] := hl
  have hT := hSF.1
  have hE := (hSF.2.2.1.1.1 j hj).2.2.2
  refine lv_iload_n hx hb dJ1_charAt_3b067_0 rfl (lv_at hl 1 rfl) ?_
  refine lv_aload_n hx hb dJ1_charAt_3b067_1 rfl (lv_at hl 0 rfl) ?_
  refine va_tlen hx hb hE va_S.rf rfl dJ1_charAt_3b067_2 ?_
  refine str_go (va_runS (As := [.int x, .int (Int32.ofNat (lensS.getD j 0))]) (rest := []) ⟨hx, hb, hml, hown, fun w hw => by cases hw⟩ (m_check (base := base) (D := D) (ay := ay) (fx := fx) (ax := ax) (sc := sc) l h0 h1) (Ts := []) ⟨strB (na := 2) hT sw_code_checkIndex sw_init_S (by decide +kernel) (by decide +kernel) sw_link_checkIndex (by decide), hT.use sw_stat_checkIndex rfl _⟩ ⟨PcS.blind, fun U hU hW => ⟨rfl, hSF.to va_S.rf hU hW⟩⟩ rfl rfl hl.1 rfl (lv_room (by decide)) dJ1_charAt_3b067_3 ⟨Nat.le_refl _, Nat.le_refl _⟩) ?_
  refine lv_aload_n hx hb dJ1_charAt_3b067_6 rfl (lv_at hl 0 rfl) ?_
  refine lv_iload_n hx hb dJ1_charAt_3b067_7 rfl (lv_at hl 1 rfl) ?_
  refine va_tb hx hb hE va_S.rf hin rfl dJ1_charAt_3b067_8 ?_
  refine lv_sipush (v := 255) hx hb dJ1_charAt_3b067_9 (by decide) ?_
  refine lv_iand hx hb dJ1_charAt_3b067_12 ?_
  refine lv_i2c hx hb dJ1_charAt_3b067_13 (sc_c2 _) ?_
  exact W.zret (ty := .char) hx hb hr (sc_nar _) (fun t ht _ => ⟨rfl, ht⟩) nil_free dJ1_charAt_3b067_14 hlk
set_option maxHeartbeats 4000000 in
theorem m_isLatin1 (l : Launch) {j : Nat} (hj : j < 16) : Met l yJ0_isLatin1_aae02 [Cond.code yJ0_isLatin1_aae02 cJ0_isLatin1_aae02 1 (some .boolean)] (rmD 0) (PcS base D ay fx ax sc [.ref (fx (j + 1))]) (QcS (some (.int 1))) 0 0 (fun _ => False) := by
  refine str_ofW (by decide +kernel) (Nat.le_refl 1) l fun p e s m below meth c lc hx hb hml hown hr hlk hSF hl => ?_
  have hl : lv_has lc 1 [(0, .ref (fx (j + 1)))] := hl
  have hT := hSF.1
  refine va_gets hx hb hSF.2.2.1.2.2.2.1 va_S.rf hown (hT.use sw_field_cs rfl _) (fun _ h => h) dJ0_isLatin1_aae02_0 ?_
  refine lv_if_eq (tgt := 17) hx hb dJ0_isLatin1_aae02_3 (by decide) (fun q => absurd q (by decide)) (fun _ => ?_)
  refine lv_aload_n hx hb dJ0_isLatin1_aae02_6 rfl (lv_at hl 0 rfl) ?_
  refine vk_getf hx hb (hSF.2.2.1.1.1 j hj).2.1 va_S.rf hown (hT.use sw_field_coderF rfl _) (fun _ h => h) dJ0_isLatin1_aae02_7 ?_
  refine lv_if_ne (tgt := 17) hx hb dJ0_isLatin1_aae02_10 (by decide) (fun q => absurd rfl q) (fun _ => ?_)
  refine lv_iconst (v := 1) hx hb dJ0_isLatin1_aae02_13 (by decide) ?_
  refine lv_goto (tgt := 18) hx hb dJ0_isLatin1_aae02_14 (by decide) ?_
  exact W.zret (ty := .boolean) hx hb hr (by decide +kernel) (fun t ht _ => ⟨rfl, ht⟩) nil_free dJ0_isLatin1_aae02_18 hlk
set_option maxHeartbeats 4000000 in
theorem m_coder (l : Launch) {j : Nat} (hj : j < 16) : Met l yJ0_coder_7d493 [Cond.code yJ0_coder_7d493 cJ0_coder_7d493 1 (some .byte)] (rmD 0) (PcS base D ay fx ax sc [.ref (fx (j + 1))]) (QcS (some (.int 0))) 0 0 (fun _ => False) := by
  refine str_ofW (by decide +kernel) (Nat.le_refl 1) l fun p e s m below meth c lc hx hb hml hown hr hlk hSF hl => ?_
  have hl : lv_has lc 1 [(0, .ref (fx (j + 1)))] := hl
  have hT := hSF.1
  refine va_gets hx hb hSF.2.2.1.2.2.2.1 va_S.rf hown (hT.use sw_field_cs rfl _) (fun _ h => h) dJ0_coder_7d493_0 ?_
  refine lv_if_eq (tgt := 13) hx hb dJ0_coder_7d493_3 (by decide) (fun q => absurd q (by decide)) (fun _ => ?_)
  refine lv_aload_n hx hb dJ0_coder_7d493_6 rfl (lv_at hl 0 rfl) ?_
  refine vk_getf hx hb (hSF.2.2.1.1.1 j hj).2.1 va_S.rf hown (hT.use sw_field_coderF rfl _) (fun _ h => h) dJ0_coder_7d493_7 ?_
  refine lv_goto (tgt := 14) hx hb dJ0_coder_7d493_10 (by decide) ?_
  exact W.zret (ty := .byte) hx hb hr (by decide +kernel) (fun t ht _ => ⟨rfl, ht⟩) nil_free dJ0_coder_7d493_14 hlk
theorem lens_byts {j : Nat} {b : List Int} (hb : sBytes[j]? = some b) : lensS.getD j 0 = b.length ∧ bytsS.getD j [] = b.map Int32.ofInt := by
  constructor
  · unfold lensS
    rw [List.getD_eq_getElem?_getD, List.getElem?_map, hb]
    rfl
  · unfold bytsS
    rw [List.getD_eq_getElem?_getD, List.getElem?_map, hb]
    rfl
theorem sBytes_and : ∀ b ∈ sBytes, b.length < 100 ∧ ∀ x ∈ b, Int32.ofInt x &&& 255 = Int32.ofInt x := by decide +kernel
set_option maxHeartbeats 4000000 in
/-- String.length -/
theorem m_length (l : Launch) {j : Nat} (hj : j < 16) {n : Nat} (hn : lensS.getD j 0 = n) (hn2 : n < 100) : Met l yJ0_length_8abf5 [Cond.code yJ0_length_8abf5 cJ0_length_8abf5 1 (some .int)] (rmD 1) (PcS base D ay fx ax sc [.ref (fx (j + 1))]) (QcS (some (.int (nI n)))) 0 0 (fun _ => False) := by
  refine str_ofW (by decide +kernel) (Nat.le_refl 1) l fun p e s m below meth c lc hx hb hml hown hr hlk hSF hl => ?_
  have hl : lv_has lc 1 [(0, .ref (fx (j + 1)))] := hl
  have hT := hSF.1
  refine lv_aload_n hx hb dJ0_length_8abf5_0 rfl (lv_at hl 0 rfl) ?_
  refine vk_getf hx hb (hSF.2.2.1.1.1 j hj).2.2.1 va_S.rf hown (hT.use sw_field_valueF rfl _) (fun _ h => h) dJ0_length_8abf5_1 ?_
  refine va_tlen hx hb (hSF.2.2.1.1.1 j hj).2.2.2 va_S.rf rfl dJ0_length_8abf5_4 ?_
  refine lv_aload_n hx hb dJ0_length_8abf5_5 rfl (lv_at hl 0 rfl) ?_
  refine str_go (va_runV (As := []) (b := fx (j + 1)) (C := RJ0) (rest := [.int (Int32.ofNat (lensS.getD j 0))]) ⟨hx, hb, hml, hown, fun w hw => by cases hw⟩ (m_coder (base := base) (D := D) (ay := ay) (fx := fx) (ax := ax) (sc := sc) l hj) (Ts := []) ⟨strB (na := 0) hT sw_code_coder sw_init_S (by decide +kernel) (by decide +kernel) sw_link_coder (by decide), hT.use sw_inst_coder rfl _, hT.use sw_sel_coder rfl _⟩ ⟨PcS.blind, vk_recv (adK := fun j => fx (j + 1)) (i := j) hSF.2.2.1.1 hj va_S.rf, fun U hU hW => ⟨rfl, hSF.to va_S.rf hU hW⟩⟩ rfl rfl hl.1 rfl (lv_room (Nat.le_of_ble_eq_true rfl)) dJ0_length_8abf5_6 ⟨Nat.le_refl _, Nat.le_refl _⟩) ?_
  rw [hn]
  refine lv_ishr hx hb dJ0_length_8abf5_9 ?_
  have e1 : Int32.ofNat n >>> ((0 : Int32) &&& 31) = nI n := sc_shr0 (by omega)
  rw [e1]
  exact W.iret hx hb hr (fun t ht _ => ⟨rfl, ht⟩) nil_free dJ0_length_8abf5_10 hlk
set_option maxHeartbeats 4000000 in
/-- String.charAt -/
theorem m_charAt (l : Launch) {j : Nat} (hj : j < 16) {x : Int32} (h0 : ¬ x < 0) (h1 : x < Int32.ofNat (lensS.getD j 0)) (hin : vp_in x (lensS.getD j 0)) : Met l yJ0_charAt_5068e [Cond.code yJ0_charAt_5068e cJ0_charAt_5068e 2 (some .char)] (rmD 4) (PcS base D ay fx ax sc [.ref (fx (j + 1)), .int x]) (QcS (some (.int ((bytsS.getD j []).getD x.toNatClampNeg 0 &&& 255)))) 0 0 (fun _ => False) := by
  refine str_ofW (by decide +kernel) (Nat.le_refl 2) l fun p e s m below meth c lc hx hb hml hown hr hlk hSF hl => ?_
  have hl : lv_has lc 2 [(0, .ref (fx (j + 1))), (1, .int x)] := hl
  have hT := hSF.1
  refine lv_aload_n hx hb dJ0_charAt_5068e_0 rfl (lv_at hl 0 rfl) ?_
  refine str_go (va_runV (As := []) (b := fx (j + 1)) (C := RJ0) (rest := []) ⟨hx, hb, hml, hown, fun w hw => by cases hw⟩ (m_isLatin1 (base := base) (D := D) (ay := ay) (fx := fx) (ax := ax) (sc := sc) l hj) (Ts := []) ⟨strB (na := 0) hT sw_code_isLatin1 sw_init_S (by decide +kernel) (by decide +kernel) sw_link_isLatin1 (by decide), hT.use sw_inst_isLatin1 rfl _, hT.use sw_sel_isLatin1 rfl _⟩ ⟨PcS.blind, vk_recv (adK := fun j => fx (j + 1)) (i := j) hSF.2.2.1.1 hj va_S.rf, fun U hU hW => ⟨rfl, hSF.to va_S.rf hU hW⟩⟩ rfl rfl hl.1 rfl (lv_room (by decide)) dJ0_charAt_5068e_1 ⟨Nat.le_refl _, Nat.le_refl _⟩) ?_
  refine lv_if_eq (tgt := 16) hx hb dJ0_charAt_5068e_4 (by decide) (fun q => absurd q (by decide)) (fun _ => ?_)
  refine lv_aload_n hx hb dJ0_charAt_5068e_7 rfl (lv_at hl 0 rfl) ?_
  refine vk_getf hx hb (hSF.2.2.1.1.1 j hj).2.2.1 va_S.rf hown (hT.use sw_field_valueF rfl _) (fun _ h => h) dJ0_charAt_5068e_8 ?_
  refine lv_iload_n hx hb dJ0_charAt_5068e_11 rfl (lv_at hl 1 rfl) ?_
  refine str_go (va_runS (As := [.ref (ax j), .int x]) (rest := []) ⟨hx, hb, hml, hown, fun w hw => by cases hw⟩ (m_l1 (base := base) (D := D) (ay := ay) (fx := fx) (ax := ax) (sc := sc) l hj h0 h1 hin) (Ts := []) ⟨strB (na := 2) hT sw_code_l1charAt sw_init_L1 (by decide +kernel) (by decide +kernel) sw_link_l1charAt (by decide), hT.use sw_stat_l1charAt rfl _⟩ ⟨PcS.blind, fun U hU hW => ⟨rfl, hSF.to va_S.rf hU hW⟩⟩ rfl rfl hl.1 rfl (lv_room (by decide)) dJ0_charAt_5068e_12 ⟨Nat.le_refl _, Nat.le_refl _⟩) ?_
  exact W.zret (ty := .char) hx hb hr (sc_nar _) (fun t ht _ => ⟨rfl, ht⟩) nil_free dJ0_charAt_5068e_15 hlk
end
