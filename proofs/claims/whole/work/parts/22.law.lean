/-! THE CLAIM OUT OF ONE WALK OF THE LAW'S BODY. Your part is whole_start (and what it stands on); all else here is the same for every law, but numbers. -/
def R_law : String := "OneCodeLaw"
def lw_P (b : Addr) (xs : List Int32) (args : Array Value) (s : State) : Prop := args = #[.ref b] ∧ s.IntsAt b xs ∧ xs.length ≤ 448 ∧ (Jvm.Cond.and given_1 narrow_1).before args s = true
def lw_Q (_ : Array Value) (s : State) (o : Outcome) (t : State) : Prop := o = .returned (some (.int 1)) ∧ Framed s o t [] 600000 7302250
def lw_Z (below : List Frame) (a : Array Value) (s : State) : State → Prop := fun t => ∃ o, t.status = .running ∧ Ended t below o ∧ lw_Q a s o t
/-- the law's own end, with 1 on the stack, nothing written that was there before, its room as the claim has it -/
theorem lw_ret {p : Program} {l : Launch} {e : Env} {s : State} {m : MethodId} {below : List Frame} {meth : Method} {c : Code} {b : Nat} (hx : p.tables.exec = Jvm.exec) (hb : c.code = code) (hr : meth.sig.returnType = ret) (hlocks : meth.locks = false) {pc : Nat} {H : Heap} {ls : Array Slot} (hdg : decode code pc = .ok (.ireturn, 1)) : W p l e room_1 s m #[Value.ref b] below meth c H [] 600000 7302250 (lw_Z below #[Value.ref b] s) (F0 m pc ls [.int 1]) := by
  intro T hT X
  obtain ⟨fs, hret, hrun, hended, hW, hframe⟩ := X.leave (v := some (.int 1)) (hlocks := hlocks) (fun h => by rw [hr] at h; cases h)
  have hmeth' : T.vm.method? m = some meth := X.method'
  refine ⟨T.setFrames fs, ?_, .returned (some (.int 1)), hrun, hended, rfl, ⟨_, rfl⟩, hW, hframe⟩
  jvm_step X.here [X.here.top, hx, hb, hdg, hmeth', hr, ret, narrow_b1]
  (try refine ⟨rfl, ?_⟩); (try refine ⟨rfl, ?_⟩)
  first | (intro acts; rw [hret _ acts rfl rfl rfl]) | rw [hret _ _ rfl rfl rfl]
  exact Steps.refl _
/-- what holds at the law's entry: the machine, the code, the tables' words (any of lw_tbl by 'hts w (by decide +kernel)'), the script of L ints xs at the cell b, what the Statement gives of the start (any of its parts by flat_of_before) -/
def lw_At (p : Program) (s : State) (m : MethodId) (meth : Method) (c : Code) (b L : Nat) (xs : Nat → Int32) : Prop :=
  p.tables.exec = Jvm.exec ∧ c.code = code ∧ meth.sig.returnType = ret ∧ c.maxLocals = 4 ∧ s.vm.findClass R_law = some m.cls ∧ (∀ w ∈ lw_tbl, w.before #[Value.ref b] s = true) ∧ va_X b L xs s s.heap ∧ b < s.heap.size ∧ meth.locks = false ∧ (Jvm.Cond.and given_1 narrow_1).before #[Value.ref b] s = true
/-! from a run of AM to the law's walk -/
def I0 : IH := fun _ _ => 0
def L0 : LH := fun _ _ => 0
def R0 : RH := fun _ _ => none
def K0 : KH := (fun _ => 999, fun _ => 0, 0, 0)
theorem wf0 : AMwf I0 L0 R0 K0 := ⟨fun _ _ => inR0, (fun _ _ _ h => by cases h), (fun _ h => absurd (show 999 < 200 from h) (by decide)), fun _ _ _ => ⟨rfl, rfl, rfl⟩, fun _ => Nat.zero_le _⟩
theorem arrayOver_specA {args : Array Value} {s : State} {t : FieldType} (h : (Cond.arrayOver (.array t)).before args s = true) : ∃ comp c k, s.vm.classes[c]? = some k ∧ k.kind = .array comp (.array t) ∧ s.vm.findClass ("[" ++ (FieldType.array t).toString) = some c := by
  simp only [Cond.before, Cond.holds, Cond.value, beq_iff_eq, Option.bind_eq_some_iff, Option.map_eq_some_iff] at h
  obtain ⟨comp, -, c, -, k, hk, hb⟩ := h
  cases hkind : k.kind with
  | array cp ty =>
    rw [hkind] at hb
    simp only [Bool.and_eq_true, decide_eq_true_eq] at hb
    exact ⟨cp, c, k, hk, by rw [hkind, hb.1], hb.2⟩
  | _ => rw [hkind] at hb; cases hb
theorem arr_K {s : State} {ty : FieldType} {c comp : ClassId} {k : Class} (hk : s.vm.classes[c]? = some k) (h : k.kind = .array comp ty) : ArrOfT s c ty := fun n z => ⟨fun _ q => (by cases q), k, hk, comp, h⟩
theorem ok_law : okS K0.2.2.1 [aF 0] := fun v hv => by
  rcases List.mem_cons.mp hv with rfl | hv
  · trivial
  · cases hv
set_option maxHeartbeats 4000000 in
/-- the law's walk out of a run -/
theorem whole_of_run {p : Program} {e : Env} {s : State} {m : MethodId} {below : List Frame} {meth : Method} {c : Code} (l : Launch) {b L : Nat} {xs : Nat → Int32} (hL : L ≤ 448) (C0 : lw_At p s m meth c b L xs)
    (hrun : ∃ (f : Nat) (I1 : IH) (L1 : LH) (R1 : RH) (K1 : KH), amRun (L, fun j => (xs j).toInt) f mLaw 0 (padL 4 (mkL [aF 0])) [] I0 L0 R0 K0 = some (some (aI 1), I1, L1, R1, K1) ∧ K1.2.2.1 ≤ 600000 ∧ K1.2.2.2 ≤ 7302250) : W p l e room_1 s m #[Value.ref b] below meth c s.heap [] 0 0 (lw_Z below #[Value.ref b] s) (entryFrame m ([Value.ref b] : List Value).toArray 4) := by
  obtain ⟨hx, hb, hr, hml, hown, hts, hX, hbl, hlocks, hgv⟩ := C0
  obtain ⟨f, I1, L1, R1, K1, hrun, hc1, hc2⟩ := hrun
  have hs : ∀ w ∈ nwL, w.before #[Value.ref b] s = true := flat_of_before _ hgv
  have hA : ∀ a : Nat, a < s.heap.size → ¬ (fun q => s.heap.size ≤ q) a := fun a ha => Nat.not_le.mpr ha
  -- the String constants
  obtain ⟨adK, adV, hS, hSe⟩ := vk_Sof (N := 16) (tm := sTm) (len := lensS) (byt := bytsS) (A := fun q => s.heap.size ≤ q) (by decide +kernel) (st_ex hs) (st_co hs) (st_ar hs) (st_le hs) (fun i hi j hj => st_el hs i hi j hj) (fun i j hi hj h => st_ne hs i j hi hj h) hA
  -- the array classes
  obtain ⟨cI, kI, pI, fI, gI, tI⟩ := Cond.arrayClass_spec (hts _ arr_ok.1)
  obtain ⟨cZ, kZ, pZ, fZ, gZ, tZ⟩ := Cond.arrayClass_spec (hts _ arr_ok.2.1)
  obtain ⟨cJ, kJ, pJ, fJ, gJ, tJ⟩ := Cond.arrayClass_spec (hts _ arr_ok.2.2.1)
  obtain ⟨p4, c4, k4, f4, -, g4, t4, n4⟩ := Cond.arrayOver_spec (hts _ arr_ok.2.2.2.1)
  obtain ⟨p9, c9, k9, f9, -, g9, t9, n9⟩ := Cond.arrayOver_spec (hts _ arr_ok.2.2.2.2.1)
  obtain ⟨pA, cA, kA, gA, tA, nA⟩ := arrayOver_specA (hts _ arr_ok.2.2.2.2.2)
  -- the classes
  have hcls : ∀ k : Nat, ∃ q : ClassId × (Nat → Nat), ∀ x : vw_C, amCl[k]? = some x → u_Kn s x.1 x.2.1 x.2.2 q.1 q.2 := by
    intro k
    cases hk : amCl[k]? with
    | none => exact ⟨(0, fun _ => 0), fun x h => by cases h⟩
    | some x =>
      have hm := List.mem_of_getElem? hk
      obtain ⟨cC, iS, hKn⟩ := u_known (C := x.1) (T := x.2.1) (N := x.2.2) (n := x.2.2) hts (cls_ok x hm).1 (hts _ (inst_ok x hm))
      exact ⟨(cC, iS), fun y h => by cases h; exact hKn⟩
  obtain ⟨dd, hdd⟩ := Classical.axiomOfChoice hcls
  let ay : Nat → ClassId := fun k => if k = 100 then cI else if k = 101 then cZ else if k = 102 then cJ else if k = 103 then c4 else if k = 104 then c9 else cA
  let fx : Nat → Nat := fun k => match k with
    | 0 => b
    | j + 1 => adK j
  have hK : va_K (fun k => (dd k).1, fun k => (dd k).2) amCl (tysO ay) s := by
    refine ⟨fun k x hk => hdd k x hk, fun k q hk => ?_⟩
    match k, hk with
    | 0, hk => cases hk; exact ⟨arr_K gI tI, fI⟩
    | 1, hk => cases hk; exact ⟨arr_K gZ tZ, fZ⟩
    | 2, hk => cases hk; exact ⟨arr_K gJ tJ, fJ⟩
    | 3, hk => cases hk; exact ⟨arr_K g4 t4, k4, p4, g4, t4, f4, n4⟩
    | 4, hk => cases hk; exact ⟨arr_K g9 t9, k9, p9, g9, t9, f9, n9⟩
    | 5, hk => cases hk; exact ⟨arr_K gA tA, nA⟩
    | k + 6, hk => cases hk
  have hTW : TW fx s := by
    refine ⟨fun w hw hg => word_at (State.WarmedH.refl s) (good_of_word hg) (hts w hw), fun w hw hn => ?_, va_AO.of (hts _ arr_ok.2.2.2.1), va_AO.of (hts _ arr_ok.2.2.2.2.1), hts _ arr_ok.2.2.2.2.2, fun j own idx tx hj => ?_⟩
    · have hz := hts w hw
      match w, hn, hz with
      | .fieldLinkNest .., _, hz => exact va_Nw.of rfl hz
      | .methodLinkNest .., _, hz => exact va_Nw.of rfl hz
    · have hlt : j < 16 := (List.getElem?_eq_some_iff.mp hj).1
      have h1 : (Cond.stringRef own idx tx).before #[Value.ref b] s = true := hts _ (str_ok _ (List.mem_of_getElem? hj))
      have h2 := hSe j hlt
      refine vk_R.of h1 ?_
      have e1 : sTm j = .string own idx := by
        have h3 : ∀ k, k < 16 → ∀ q ∈ sTab[k]?, sTm k = .string q.1 q.2.1 := by
          intro k hk q hq
          match k, hk, hq with
          | 0, _, hq => cases hq; rfl
          | 1, _, hq => cases hq; rfl
          | 2, _, hq => cases hq; rfl
          | 3, _, hq => cases hq; rfl
          | 4, _, hq => cases hq; rfl
          | 5, _, hq => cases hq; rfl
          | 6, _, hq => cases hq; rfl
          | 7, _, hq => cases hq; rfl
          | 8, _, hq => cases hq; rfl
          | 9, _, hq => cases hq; rfl
          | 10, _, hq => cases hq; rfl
          | 11, _, hq => cases hq; rfl
          | 12, _, hq => cases hq; rfl
          | 13, _, hq => cases hq; rfl
          | 14, _, hq => cases hq; rfl
          | 15, _, hq => cases hq; rfl
          | k + 16, h, _ => exact absurd h (by omega)
        exact h3 j hlt _ hj
      rw [e1] at h2
      exact h2
  have hXs : va_X (fx 0) L (fun j => Int32.ofInt (xs j).toInt) s s.heap := by
    have e1 : (fun j => Int32.ofInt (xs j).toInt) = xs := funext fun j => ofInt_toInt (xs j)
    rw [e1]
    exact hX
  have hSF : SF s.heap.size (fun k => (dd k).1, fun k => (dd k).2) ay fx adV (L, fun j => (xs j).toInt) s :=
    ⟨hTW, hK, ⟨hS, hXs, ⟨hbl, Nat.not_le.mpr hbl⟩, va_Zof (hts _ ls_cs) (hts _ sw_init_S) (va_eqt (st_cs hs)) hA, va_Zqof (hts _ ls_fm) (hts _ sw_init_PR) (st_fm hs) hA⟩, Nat.le_refl _, by show L ≤ 65536; omega, fun j => inR_toInt _⟩
  have hC : Ctx (L, fun j => (xs j).toInt) s.heap.size (fun k => (dd k).1, fun k => (dd k).2) ay fx adV mLaw p room_1 s m meth c := ⟨hx, hb, hml, hown, fun h => absurd h (by decide +kernel), hlocks, ⟨by decide +kernel, by decide +kernel⟩, hSF⟩
  have hRel : Rel s.heap.size (fun k => (dd k).1, fun k => (dd k).2) ay s (fun _ => 0) I0 L0 R0 K0 s.heap [] := ⟨fun k q h => (by cases h), ⟨fun i j p q h => (by cases h), fun k q h => (by cases h)⟩, va_S.rf⟩
  rw [lg_entry_eq]
  refine am_sound (sc := (L, fun j => (xs j).toInt)) ⟨by show L ≤ 65536; omega, fun j => inR_toInt _⟩ f mLaw 0 _ [] I0 L0 R0 K0 _ I1 L1 R1 K1 hrun wf0 (fun v hv => by cases hv) (okL_pad ok_law) p l e room_1 s m _ below meth c s.heap.size _ ay fx adV (fun _ => 0) s.heap [] 0 0 _ _ hC hRel (entry_LRel (as := [aF 0]) (by decide)) (by rw [Nat.zero_add]; exact hc1) (by rw [Nat.zero_add]; exact hc2) fun am1 H1 locs1 lc1 pc1 i hag hr1 hd hri => ?_
  rw [Nat.zero_add, Nat.zero_add]
  refine va_forget (fun q hq => hr1.2.2.2.2 q hq) ?_
  refine W.widen (k := 600000) (n := 7302250) hc1 hc2 ?_
  rcases hri with ⟨x, rfl, hx1, -⟩ | ⟨a, -, h, -⟩ | ⟨j, -, h, -⟩ | ⟨-, h, -⟩
  · cases hx1
    exact lw_ret hx hb hr hlocks hd
  · cases h
  · cases h
  · cases h
