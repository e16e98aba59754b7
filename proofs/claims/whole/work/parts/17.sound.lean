/-! the induction -/
theorem minMax_max {cmi : Nat} {x y : Int} (h : cmi = mMax) (hx : inR x) (hy : inR y) : (if Int32.ofInt x < Int32.ofInt y then Int32.ofInt y else Int32.ofInt x) = Int32.ofInt (minMax cmi x y) := by
  unfold minMax
  rw [if_pos h]
  by_cases q : x < y
  · rw [if_pos q, if_pos ((lt_ofInt hx hy).mpr q)]
  · rw [if_neg q, if_neg (fun z => q ((lt_ofInt hx hy).mp z))]
theorem minMax_min {cmi : Nat} {x y : Int} (h : cmi ≠ mMax) (hx : inR x) (hy : inR y) : (if Int32.ofInt y < Int32.ofInt x then Int32.ofInt y else Int32.ofInt x) = Int32.ofInt (minMax cmi x y) := by
  unfold minMax
  rw [if_neg h]
  by_cases q : y < x
  · rw [if_pos q, if_pos ((lt_ofInt hy hx).mpr q)]
  · rw [if_neg q, if_neg (fun z => q ((lt_ofInt hy hx).mp z))]
theorem ofInt_nn {x : Int} (hx : inR x) (h : 0 ≤ x) : ¬ Int32.ofInt x < 0 := fun q => by
  have := (lt_ofInt hx inR0).mp q
  omega
theorem copy_cpy {I : IH} {a sp b dp n : Nat} : va_cpy (fun i => Int32.ofInt (I a i)) (fun i => Int32.ofInt (I b i)) sp dp n = fun i => Int32.ofInt (copyI I a sp b dp n b i) := by
  funext j
  unfold copyI
  by_cases h : dp ≤ j ∧ j < dp + n
  · rw [pk_cpy_in h.1 h.2, if_pos ⟨rfl, h.1, h.2⟩]
  · rw [pk_cpy_out (by omega), if_neg (fun q => h q.2)]
theorem copy_words : (nativeFrameWords "java/lang/System" "arraycopy" 5 + 11) + 8 ≤ 38 := by decide +kernel
section
variable {sc : Nat × (Nat → Int)}
set_option maxHeartbeats 8000000 in
theorem body_sound (hsc : sc.1 ≤ 65536 ∧ ∀ j, inR (sc.2 j)) (hSM : StrMet sc) : ∀ f, BodyS sc f := by
  intro f
  induction f with
  | zero => intro mi pc ls st I L R K rv I1 L1 R1 K1 h; cases h
  | succ f ih =>
    intro mi pc ls st I L R K rv I1 L1 R1 K1 h hw hst hls p l e Rm s m args below meth c base D ay fx ax am H locs cells slots lc Q C hr hl h1 h2 kret
    obtain ⟨i, n, hd, hn, hc⟩ := run_inv h
    have hT := C.2.2.2.2.2.2.2.1
    have hK := C.2.2.2.2.2.2.2.2.1
    rcases hc with ⟨x, rfl, rfl, hx, hres⟩ | ⟨a, rfl, rfl, hx, hres⟩ | ⟨j, rfl, rfl, hx, hres⟩ | ⟨rfl, hx, rfl, hres⟩ | ⟨idx, k, dp, b, sp, a, r, rfl, hcp, rfl, hcc, hrun⟩ | ⟨idx, cmi, x, y, r, rfl, hco, hmm, hrun⟩ | ⟨idx, ks, cmi, as, r, rv2, I2, L2, R2, K2, hks, hco, hmm, hns, hrun1, hrun⟩ | ⟨idx, cmi, as, r, x, rfl, hco, hstr, hp, hrun⟩ | ⟨idx, a, r, rfl, hob, rfl, hlv, hrun⟩ | ⟨g, hs, hrun⟩
    · cases hres
      obtain rfl : n = 1 := by simpa [insLen] using hn
      have hk := kret am H locs lc pc .ireturn (fun _ _ => rfl) hr hd (Or.inl ⟨x, rfl, rfl, hx⟩)
      simp only [Nat.sub_self, Nat.add_zero] at hk
      exact hk
    · cases hres
      obtain rfl : n = 1 := by simpa [insLen] using hn
      have hk := kret am H locs lc pc .areturn (fun _ _ => rfl) hr hd (Or.inr (Or.inl ⟨a, rfl, rfl, hx⟩))
      simp only [Nat.sub_self, Nat.add_zero] at hk
      exact hk
    · cases hres
      obtain rfl : n = 1 := by simpa [insLen] using hn
      have hk := kret am H locs lc pc .areturn (fun _ _ => rfl) hr hd (Or.inr (Or.inr (Or.inl ⟨j, rfl, rfl, hx⟩)))
      simp only [Nat.sub_self, Nat.add_zero] at hk
      exact hk
    · cases hres
      obtain rfl : n = 1 := by simpa [insLen] using hn
      have hk := kret am H locs lc pc .return_ (fun _ _ => rfl) hr hd (Or.inr (Or.inr (Or.inr ⟨rfl, rfl, hx⟩)))
      simp only [Nat.sub_self, Nat.add_zero] at hk
      exact hk
    · -- System.arraycopy
      obtain rfl : n = 3 := by simpa [insLen] using hn
      obtain ⟨ha, hb, c1, c2, c3, c4, c5, c6, c7⟩ := hcc
      have hik : inR k := hst.hd
      have hid : inR dp := hst.tl.hd
      have his : inR sp := hst.tl.tl.tl.hd
      have haz : a < K.2.2.1 := hw.2.2.1 a (by omega)
      have hbz : b < K.2.2.1 := hw.2.2.1 b (by omega)
      have hfr := C.2.2.2.2.2.2.1
      have hkey : idx < 4096 ∧ mOwn mi * 4096 + idx = copyKey := by simpa [isCopy] using hcp
      obtain ⟨hidx, hkey⟩ := hkey
      have hws := wsO_set (ay := ay) (am := am) (I := I) (I' := copyI I a sp.toNat b dp.toNat k.toNat) (L := L) (L' := L) (R := R) (R' := R) hbz (fun q hq => cellO_I (by funext j; unfold copyI; rw [if_neg (fun z => hq z.1)]) rfl rfl) (cell_I hb)
      obtain ⟨ho, rfl⟩ := key_eq (hkey.trans copy_ok.1) hidx (by decide)
      refine va_copyi (D := D) (cl := amCl) (tys := tysO ay) (ty := .int) C.1 C.2.1 (C.2.2.1.trans hl.1.symm) C.2.2.2.1 (by rw [ho]; exact hT.use copy_ok.2.1 rfl args) (hT.use copy_ok.2.2.1 rfl args) (hT.use copy_ok.2.2.2.1 rfl args) (hT.use copy_ok.2.2.2.2 rfl args) hK hr.1 hr.2.1 hr.2.2 a b 0 0 (am_at ha (cell_I ha) haz) (am_at hb (cell_I hb) hbz) rfl rfl rfl (ofInt_nn his c2) (ofInt_nn hid c3) (ofInt_nn hik c1) (by rw [clamp_ofInt his, clamp_ofInt hik]; omega) (by rw [clamp_ofInt hid, clamp_ofInt hik]; omega) (fun _ _ => rfl) (by omega) (by rw [catS_map]; have := copy_words; omega) hd fun H1 locs1 hP hD hS => ?_
      rw [clamp_ofInt his, clamp_ofInt hid, clamp_ofInt hik, copy_cpy] at hP hD
      exact ih mi (pc + 3) ls r _ L R K rv I1 L1 R1 K1 hrun (hw.copy hbz) hst.tl.tl.tl.tl.tl hls p l e Rm s m args below meth c base D ay fx ax am H1 locs1 cells slots lc Q C ⟨hws ▸ hP, hws ▸ hD, hS⟩ hl h1 h2 kret
    · -- Math.max, Math.min
      obtain rfl : n = 3 := by simpa [insLen] using hn
      obtain ⟨nest, hc1, hlv, hst2, hlen, hcat, -, hrecv⟩ := callOf_spec hco
      obtain ⟨hmo, hlink, hkind⟩ := cSite_spec hc1
      have hfr := C.2.2.2.2.2.2.1
      have hstk : st = [aI y, aI x] ++ r := hst2
      subst hstk
      have hy : inR y := hst.hd
      have hx : inR x := hst.tl.hd
      have hmo2 : inR (minMax cmi x y) := by
        unfold minMax
        split <;> split <;> first | exact hx | exact hy
      have go : W p l e Rm s m args below meth c H locs cells slots Q (F0 m (pc + 3) lc (.int (Int32.ofInt (minMax cmi x y)) :: r.map (cv am fx))) :=
        ih mi (pc + 3) ls (aI (minMax cmi x y) :: r) I L R K rv I1 L1 R1 K1 hrun hw (okS_cons hmo2 hst.tl.tl) hls p l e Rm s m args below meth c base D ay fx ax am H locs cells slots lc Q C hr hl h1 h2 kret
      have hcs : cells ≤ Rm.cells := by omega
      have hss : slots ≤ Rm.slots := by omega
      have hsum : ((r.map (cv am fx)).map fun v => v.category).sum + 13 ≤ Rm.locals := by
        rw [catS_map]
        omega
      have hnf := mm_nest hmm hc1
      subst hnf
      · by_cases hmx : cmi = mMax
        · have e1 := minMax_max hmx hx hy
          subst hmx
          refine va_mmax C.1 C.2.1 (C.2.2.1.trans hl.1.symm) C.2.2.2.1 (hT.use hlink rfl args) (hT.use hkind rfl args) (hT.use hmo.2.2.1 rfl args) (hT.use hmo.2.1 rfl args) (by omega) hsum hcs hss hd ?_
          rw [e1]
          exact go
        · have hmn : cmi = mMin := by simpa [isMM, hmx] using hmm
          have e1 := minMax_min hmx hx hy
          subst hmn
          refine va_mmin C.1 C.2.1 (C.2.2.1.trans hl.1.symm) C.2.2.2.1 (hT.use hlink rfl args) (hT.use hkind rfl args) (hT.use hmo.2.2.1 rfl args) (hT.use hmo.2.1 rfl args) (by omega) hsum hcs hss hd ?_
          rw [e1]
          exact go
    · -- a call
      obtain rfl : n = 3 := by rcases hks with ⟨-, rfl⟩ | ⟨-, rfl⟩ | ⟨-, rfl⟩ <;> simpa [insLen] using hn
      obtain ⟨nest, hc1, hlv, hst2, hlen, hcat, hmkl, hrecv⟩ := callOf_spec hco
      obtain ⟨hmo, hlink, hkind⟩ := cSite_spec hc1
      have has : okS K.2.2.1 as := okS_rev fun v hv => hst v (by rw [hst2]; exact List.mem_append_left _ hv)
      have hr0 : okS K.2.2.1 r := fun v hv => hst v (by rw [hst2]; exact List.mem_append_right _ hv)
      have hpl : plainName (mName cmi).cls = true := by
        rcases hmo.1 with h3 | h3 | h3
        · exact h3
        · rw [h3] at hmm; cases hmm
        · rw [h3] at hmm; cases hmm
      obtain ⟨w1, w2, w3, w4⟩ := run_wf hsc _ _ _ _ _ _ _ _ _ _ _ _ _ _ hrun1 hw (fun v hv => by cases hv) (okL_pad has)
      obtain ⟨g1, g2, g3, g4⟩ := run_wf hsc _ _ _ _ _ _ _ _ _ _ _ _ _ _ hrun w1 (okS_app (fun v hv => w2 v (Option.mem_toList.mp hv)) (hr0.mono w3)) (hls.mono w3)
      have hM := met_of (base := base) (D := D) (ay := ay) (fx := fx) (ax := ax) (am := am) ih hmo hpl hrun1 hw has hmkl l
      refine am_call C hr hl.1 hw hst hd hks hco hM ⟨by omega, by omega⟩ (fun j as2 hj hk0 => ?_) fun am1 H1 locs1 hag hr1 => ?_
      · subst hj
        have h9 : ks = 1 ∧ (cmi = mCharAt ∨ cmi = mLength) := by
          unfold recvOK at hrecv
          simpa [hk0] using hrecv
        have h8 := hns h9.1
        rcases h9.2 with h7 | h7 <;> (rw [h7] at h8; cases h8)
      · have e1 : (rv2.map (cv am1 fx)).toList ++ r.map (cv am fx) = (rv2.toList ++ r).map (cv am1 fx) := by
          rw [List.map_append, cvs_congr hag hr0]
          cases rv2 <;> rfl
        rw [e1]
        refine ih mi (pc + 3) ls (rv2.toList ++ r) I2 L2 R2 K2 rv I1 L1 R1 K1 hrun w1 (okS_app (fun v hv => w2 v (Option.mem_toList.mp hv)) (hr0.mono w3)) (hls.mono w3) p l e Rm s m args below meth c base D ay fx ax am1 H1 locs1 _ _ lc Q C hr1 (hl.congr hag hls) (by omega) (by omega) fun am2 H2 locs2 lc2 pc2 i2 hag2 hr2 hd2 hri => ?_
        have hk := kret am2 H2 locs2 lc2 pc2 i2 (fun a ha => (hag2 a (Nat.lt_of_lt_of_le ha w3)).trans (hag a ha)) hr2 hd2 hri
        have e2 : cells + (K2.2.2.1 - K.2.2.1) + (K1.2.2.1 - K2.2.2.1) = cells + (K1.2.2.1 - K.2.2.1) := by omega
        have e3 : slots + (K2.2.2.2 - K.2.2.2) + (K1.2.2.2 - K2.2.2.2) = slots + (K1.2.2.2 - K.2.2.2) := by omega
        rw [e2, e3]
        exact hk
    · -- a String constant's methods
      obtain rfl : n = 3 := by simpa [insLen] using hn
      obtain ⟨nest, hc1, hlv, hst2, hlen, hcat, hmkl, hrecv⟩ := callOf_spec hco
      obtain ⟨hmo, hlink, hkind⟩ := cSite_spec hc1
      have hr0 : okS K.2.2.1 r := fun v hv => hst v (by rw [hst2]; exact List.mem_append_right _ hv)
      have hM := hSM cmi as x I L R K base D ay fx ax am l hstr hp
      refine am_call C hr hl.1 hw hst hd (Or.inr (Or.inl ⟨rfl, rfl⟩)) hco hM ⟨by omega, by omega⟩ (fun j as2 hj hk0 => ?_) fun am1 H1 locs1 hag hr1 => ?_
      · subst hj
        exact str_recvP C hr hp hstr
      · have e1 : (((some (aI x) : Option AV)).map (cv am1 fx)).toList ++ r.map (cv am fx) = (aI x :: r).map (cv am1 fx) := by
          rw [List.map_cons, cvs_congr hag hr0]
          rfl
        rw [e1, Nat.add_zero, Nat.add_zero]
        exact ih mi (pc + 3) ls (aI x :: r) I L R K rv I1 L1 R1 K1 hrun hw (okS_cons (prim_inR hp) hr0) hls p l e Rm s m args below meth c base D ay fx ax am1 H1 locs1 _ _ lc Q C hr1 (hl.congr hag hls) h1 h2 fun am2 H2 locs2 lc2 pc2 i2 hag2 hr2 hd2 hri => kret am2 H2 locs2 lc2 pc2 i2 (fun a ha => (hag2 a ha).trans (hag a ha)) hr2 hd2 hri
    · -- Object.<init>
      obtain rfl : n = 3 := by simpa [insLen] using hn
      have hfr := C.2.2.2.2.2.2.1
      have hob2 : idx < 4096 ∧ mOwn mi * 4096 + idx ∈ oTab := by simpa [isObj] using hob
      obtain ⟨hidx, hob2⟩ := hob2
      obtain ⟨o', i', he, hi2, hlk⟩ := otab_ok _ hob2
      · obtain ⟨ho, hii⟩ := key_eq he hidx hi2
        subst hii
        rw [← ho] at hlk
        refine W.objInit C.1 C.2.1 C.2.2.2.1 (hT.use hlk rfl args) (hT.use objw_1 rfl args) (hT.use objw_2 rfl args) rfl (hl.1.trans C.2.2.1.symm) rfl hd (by omega) ?_ ?_
        · have := lv_room (m := m) (pc := pc) (ls := lc) (rest := (aR (some a) :: r).map (cv am fx)) (st := r.map (cv am fx)) (by rw [catS_map]; exact hlv.2)
          omega
        · exact ih mi (pc + 3) ls r I L R K rv I1 L1 R1 K1 hrun hw hst.tl hls p l e Rm s m args below meth c base D ay fx ax am H locs cells slots lc Q C hr hl h1 h2 kret
    · -- a step
      obtain ⟨w1, w2, w3, w4, w5⟩ := stepL_wf hsc hw hst hls hs
      obtain ⟨g1, g2, g3, g4⟩ := run_wf hsc _ _ _ _ _ _ _ _ _ _ _ _ _ _ hrun w1 w2 w3
      have S : StepS p l e Rm s m args below meth c base D ay fx (mMaxL mi) pc ls st I L R K g := stepL_sound C hd hn hw hst hls hs
      refine S am H locs cells slots lc Q hr hl (by omega) (by omega) fun am1 H1 locs1 lc1 hag hr1 hl1 => ?_
      refine ih mi g.1 g.2.1 g.2.2.1 _ _ _ _ rv I1 L1 R1 K1 hrun w1 w2 w3 p l e Rm s m args below meth c base D ay fx ax am1 H1 locs1 _ _ lc1 Q C hr1 hl1 (by omega) (by omega) fun am2 H2 locs2 lc2 pc2 i2 hag2 hr2 hd2 hri => ?_
      have hk := kret am2 H2 locs2 lc2 pc2 i2 (fun a ha => (hag2 a (Nat.lt_of_lt_of_le ha w4)).trans (hag a ha)) hr2 hd2 hri
      have e2 : cells + (g.2.2.2.2.2.2.2.2.1 - K.2.2.1) + (K1.2.2.1 - g.2.2.2.2.2.2.2.2.1) = cells + (K1.2.2.1 - K.2.2.1) := by omega
      have e3 : slots + (g.2.2.2.2.2.2.2.2.2 - K.2.2.2) + (K1.2.2.2 - g.2.2.2.2.2.2.2.2.2) = slots + (K1.2.2.2 - K.2.2.2) := by omega
      rw [e2, e3]
      exact hk
end
