/-! arrays of arrays are made -/
section
variable {p : Program} {l : Launch} {e : Env} {Rm : Room} {s : State} {m : MethodId} {args : Array Value} {below : List Frame} {meth : Method} {c : Code} {base : Nat} {D : va_G} {ay fx ax : Nat → Nat} {sc : Nat × (Nat → Int)} {mi n pc : Nat} {ls : ALs} {st : List AV} {I : IH} {L : LH} {R : RH} {K : KH} {g : ACfg}
def am2 (am : Nat → Nat) (sz N q : Nat) (r : Nat → Nat) : Nat → Nat := fun a => if a = sz then q else if sz < a ∧ a ≤ sz + N then r (a - sz - 1) else am a
theorem wsO_push2 {am : Nat → Nat} (hw : AMwf I L R K) (q N M : Nat) (r : Nat → Nat) : (wsO ay am I L R K ++ [(q, .inl (ay 105, N, .inr (.inr (.inr (.inr (fun i => if i < N then some (r i) else none))))))]) ++ (List.range N).map (fun i => (r i, (.inl (ay 100, M, .inl fun _ => 0) : va_E))) = wsO ay (am2 am K.2.2.1 N q r) I L (rows2 R K.2.2.1 N) (amAlloc2 K N M) := by
  have hfr := hw.2.2.2.1
  unfold wsO
  show _ = (List.range (K.2.2.1 + 1 + N)).map _
  rw [List.range_add, List.map_append, List.range_succ, List.map_append]
  congr 1
  · congr 1
    · apply List.map_congr_left
      intro a ha
      have ha := List.mem_range.mp ha
      have e1 : am2 am K.2.2.1 N q r a = am a := by
        unfold am2
        rw [if_neg (by omega), if_neg (by omega)]
      have e2 : (amAlloc2 K N M).1 a = K.1 a := by
        show (if a = K.2.2.1 then 105 else if K.2.2.1 < a ∧ a ≤ K.2.2.1 + N then 100 else K.1 a) = _
        rw [if_neg (by omega), if_neg (by omega)]
      have e3 : (amAlloc2 K N M).2.1 a = K.2.1 a := by
        show (if a = K.2.2.1 then N else if K.2.2.1 < a ∧ a ≤ K.2.2.1 + N then M else K.2.1 a) = _
        rw [if_neg (by omega), if_neg (by omega)]
      have e4 : rows2 R K.2.2.1 N a = R a := by
        funext j
        exact if_neg (by omega)
      rw [e1]
      have e5 : cellO ay (am2 am K.2.2.1 N q r) I L (rows2 R K.2.2.1 N) (amAlloc2 K N M) a = cellO ay am I L R K a := by
        rw [cellO_I (I := I) (L := L) (R := R) rfl rfl e4]
        refine cellO_congr (fun i x hx => ?_) e2 e3
        have := hw.2.1 a i x hx
        unfold am2
        rw [if_neg (by omega), if_neg (by omega)]
      rw [e5]
    · rw [List.map_cons, List.map_nil]
      have e1 : am2 am K.2.2.1 N q r K.2.2.1 = q := if_pos rfl
      have e2 : (amAlloc2 K N M).1 K.2.2.1 = 105 := if_pos rfl
      have e3 : (amAlloc2 K N M).2.1 K.2.2.1 = N := if_pos rfl
      rw [e1, cell_R e2 (Or.inr (Or.inr rfl)), e3]
      congr 1
      congr 1
      congr 3
      refine congrArg (fun f => Sum.inr (Sum.inr (Sum.inr (Sum.inr f)))) (funext fun i => ?_)
      unfold rows2
      by_cases hi : i < N
      · rw [if_pos hi, if_pos ⟨rfl, hi⟩]
        show _ = some (am2 am K.2.2.1 N q r (K.2.2.1 + 1 + i))
        unfold am2
        rw [if_neg (by omega), if_pos (by omega), show K.2.2.1 + 1 + i - K.2.2.1 - 1 = i by omega]
      · rw [if_neg hi, if_neg (by omega), (hfr K.2.2.1 i (Nat.le_refl _)).2.2]
        rfl
  · rw [List.map_map]
    apply List.map_congr_left
    intro i hi
    have hi := List.mem_range.mp hi
    show (r i, _) = (am2 am K.2.2.1 N q r (K.2.2.1 + 1 + i), _)
    have e1 : am2 am K.2.2.1 N q r (K.2.2.1 + 1 + i) = r i := by
      unfold am2
      rw [if_neg (by omega), if_pos (by omega), show K.2.2.1 + 1 + i - K.2.2.1 - 1 = i by omega]
    have e2 : (amAlloc2 K N M).1 (K.2.2.1 + 1 + i) = 100 := by
      show (if K.2.2.1 + 1 + i = K.2.2.1 then 105 else if K.2.2.1 < K.2.2.1 + 1 + i ∧ K.2.2.1 + 1 + i ≤ K.2.2.1 + N then 100 else K.1 (K.2.2.1 + 1 + i)) = _
      rw [if_neg (by omega), if_pos (by omega)]
    have e3 : (amAlloc2 K N M).2.1 (K.2.2.1 + 1 + i) = M := by
      show (if K.2.2.1 + 1 + i = K.2.2.1 then N else if K.2.2.1 < K.2.2.1 + 1 + i ∧ K.2.2.1 + 1 + i ≤ K.2.2.1 + N then M else K.2.1 (K.2.2.1 + 1 + i)) = _
      rw [if_neg (by omega), if_pos (by omega)]
    have e4 : (fun j => Int32.ofInt (I (K.2.2.1 + 1 + i) j)) = fun _ => (0 : Int32) := by
      funext j
      rw [(hfr (K.2.2.1 + 1 + i) j (by omega)).1]
      rfl
    rw [e1, cell_I e2, e3, e4]
set_option maxHeartbeats 4000000 in
theorem s_multianewarray {idx d : Nat} (C : Ctx sc base D ay fx ax mi p Rm s m meth c) (hd : decode (mBytes mi) pc = .ok (.multianewarray idx d, n)) (hn : insLen (.multianewarray idx d) n = true) (hw : AMwf I L R K) (hst : okS K.2.2.1 st) (hls : okL K.2.2.1 ls) (h : stepL sc mi (.multianewarray idx d) n pc ls st I L R K = some g) : StepS p l e Rm s m args below meth c base D ay fx (mMaxL mi) pc ls st I L R K g := by
  obtain rfl : n = 4 := by simpa [insLen] using hn
  simp only [stepL] at h
  split at h
  case h_2 => cases h
  case h_1 z y r0 =>
    split at h
    case h_2 => cases h
    case h_1 kind hkind =>
      split at h
      case isFalse => cases h
      case isTrue hz =>
        obtain ⟨hy, hz, rfl⟩ := hz
        cases h
        obtain ⟨hz1, hz2⟩ := nat_ofInt hz.1 hz.2
        obtain ⟨hy1, hy2⟩ := nat_ofInt hy.1 hy.2
        have hK := C.2.2.2.2.2.2.2.2.1
        have hT := C.2.2.2.2.2.2.2.1
        have hA : ∀ q, s.heap.size ≤ q → base ≤ q := fun q hq => Nat.le_trans C.2.2.2.2.2.2.2.2.2.2.1 hq
        intro am H locs cells slots lc Q hr hl h1 h2 kk
        have e1 : (amAlloc2 K y.toNat z.toNat).2.2.1 - K.2.2.1 = 1 + y.toNat := by show K.2.2.1 + 1 + y.toNat - K.2.2.1 = _; omega
        have e2 : (amAlloc2 K y.toNat z.toNat).2.2.2 - K.2.2.2 = y.toNat + y.toNat * z.toNat := by show K.2.2.2 + y.toNat + y.toNat * z.toNat - K.2.2.2 = _; omega
        simp only [e1, e2] at h1 h2 kk
        have hws : wsO ay am I L R K ++ va_pl [] (fun _ => (.inl (ay 100, 0, .inl fun _ => 0) : va_E)) = wsO ay am I L R K := List.append_nil _
        have hcl : (Cond.classLink (oName (mOwn mi)) idx ("[" ++ (FieldType.array FieldType.int).toString)).before args s = true := by
          rw [show "[" ++ (FieldType.array FieldType.int).toString = "[[I" from by decide +kernel]
          exact hT.use (uSite_spec hkind) rfl args
        refine va_mna (D := D) (cl := amCl) (tys := tysO ay) (ty := .int) (cy := ay 100) (X := wsO ay am I L R K) (L := []) (f := fun _ => .inl (ay 100, 0, .inl fun _ => 0)) (z := (z.toNat, .inl fun _ => 0)) C.1 C.2.1 C.2.2.2.1 hcl hT.2.2.2.2.1 (hT.use arr_ok.1 rfl args) (hK.2 0 _ rfl).2 hK (hws.symm ▸ hr.1) (hws.symm ▸ hr.2.1) hr.2.2 hA hy1 hz1 hy2 hz2 (by omega) (by show z.toNat * 4 ≤ 536870912; omega) (by omega) rfl rfl (by omega) (by omega) (fun c => arrV_new c _ _) hd fun q r cA H1 hri hrn hK1 hP hD hS => ?_
        have hcA : cA = ay 105 := by
          have f1 := (hK1.2 6 (cA, .array .int) rfl).2
          have f2 := (hK.2 5 _ rfl).2
          exact Option.some.inj (f1.symm.trans f2)
        subst hcA
        have hpl : va_pl ([] ++ (List.range y.toNat).map r) (vr_up (fun _ => (.inl (ay 100, 0, .inl fun _ => 0) : va_E)) ((List.range y.toNat).map r) (.inl (ay 100, z.toNat, .inl fun _ => 0))) = (List.range y.toNat).map (fun i => (r i, (.inl (ay 100, z.toNat, .inl fun _ => 0) : va_E))) := by
          unfold va_pl
          rw [List.nil_append, List.map_map]
          apply List.map_congr_left
          intro i hi
          show (r i, vr_up _ _ _ (r i)) = _
          rw [vr_up_in (List.mem_map.mpr ⟨i, hi, rfl⟩)]
        rw [hpl, wsO_push2 hw] at hP hD
        have hag : ∀ a, a < K.2.2.1 → am2 am K.2.2.1 y.toNat q r a = am a := fun a ha => by
          unfold am2
          rw [if_neg (by omega), if_neg (by omega)]
        have hk := kk (am2 am K.2.2.1 y.toNat q r) H1 locs lc hag ⟨hP, hD, hS⟩ (hl.congr hag hls)
        have hst0 : okS K.2.2.1 r0 := fun v hv => hst v (List.mem_cons_of_mem _ (List.mem_cons_of_mem _ hv))
        have e3 : (aR (some K.2.2.1) :: r0).map (cv (am2 am K.2.2.1 y.toNat q r) fx) = .ref q :: r0.map (cv am fx) := by
          rw [List.map_cons, cvs_congr hag hst0]
          show Value.ref (am2 am K.2.2.1 y.toNat q r K.2.2.1) :: _ = _
          rw [show am2 am K.2.2.1 y.toNat q r K.2.2.1 = q from if_pos rfl]
        rw [e3, ← Nat.add_assoc, ← Nat.add_assoc] at hk
        exact hk
end
