/-! runs keep AM's heap well formed; what a call's pieces are -/
def cLink (o idx cmi : Nat) (nest : Bool) : Prop := match nest with
  | false => Cond.methodLink (oName o) idx (mName cmi) ∈ lw_tbl
  | true => Cond.methodLinkNest (oName o) idx (mName cmi) RX11 ∈ lw_tbl
def cKind (cmi ks : Nat) : Prop := match ks with
  | 0 => Cond.static (mName cmi) ∈ lw_tbl
  | 1 => Cond.instanceMethod (mName cmi) ∈ lw_tbl ∧ Cond.selects (mName cmi).cls (mName cmi) (mName cmi) ∈ lw_tbl
  | _ => Cond.instanceMethod (mName cmi) ∈ lw_tbl ∧ (mName cmi).name = "<init>" ∧ mRet cmi = none
theorem cSite_spec {o idx cmi ks : Nat} {nest : Bool} (h : cSite o idx = some (cmi, ks, nest)) : mOK cmi ∧ cLink o idx cmi nest ∧ cKind cmi ks := by
  unfold cSite at h
  split at h
  case isFalse => cases h
  case isTrue hi =>
    obtain ⟨o', i', he, h2, h3, h4, h5⟩ := ctab_ok _ (al_mem h)
    obtain ⟨rfl, rfl⟩ := key_eq he hi h2
    exact ⟨h3, h4, h5⟩
theorem callOf_spec {mi idx ks cmi : Nat} {st as r : List AV} {K : KH} (h : callOf mi idx ks st K = some (cmi, as, r)) : ∃ nest, cSite (mOwn mi) idx = some (cmi, ks, nest) ∧ mLvl cmi < mLvl mi ∧ st = as.reverse ++ r ∧ as.length = naOf cmi ks ∧ catS r ≤ 8 ∧ (mkL as).length ≤ mMaxL cmi ∧ recvOK cmi ks as K = true := by
  unfold callOf at h
  split at h
  case h_2 => cases h
  case h_1 c1 kind nest hc =>
    split at h
    case isFalse => cases h
    case isTrue hcc =>
      cases h
      obtain ⟨rfl, h1, h2, h3, h4, -, h6⟩ := hcc
      exact ⟨nest, hc, h1, by rw [List.reverse_reverse, List.take_append_drop], by rw [List.length_reverse, List.length_take]; omega, h3, h4, h6⟩
theorem mkL_mem {as : List AV} {v : AV} (h : some v ∈ mkL as) : v ∈ as := by
  induction as with
  | nil => cases h
  | cons w r ih =>
    unfold mkL at h
    split at h
    · rcases List.mem_cons.mp h with h | h
      · cases h; exact List.mem_cons_self
      · rcases List.mem_cons.mp h with h | h
        · cases h
        · exact List.mem_cons_of_mem _ (ih h)
    · rcases List.mem_cons.mp h with h | h
      · cases h; exact List.mem_cons_self
      · exact List.mem_cons_of_mem _ (ih h)
theorem okL_pad {sz n : Nat} {as : List AV} (h : okS sz as) : okL sz (padL n (mkL as)) := by
  intro v hv
  unfold padL at hv
  rcases List.mem_append.mp hv with hv | hv
  · exact h v (mkL_mem hv)
  · cases (List.mem_replicate.mp hv).2
theorem okS_app {sz : Nat} {a b : List AV} (ha : okS sz a) (hb : okS sz b) : okS sz (a ++ b) := fun v hv => (List.mem_append.mp hv).elim (ha v) (hb v)
theorem okS_rev {sz : Nat} {a : List AV} (ha : okS sz a.reverse) : okS sz a := fun v hv => ha v (List.mem_reverse.mpr hv)
theorem sBytes_ok : ∀ b ∈ sBytes, (Int32.ofInt (b.length : Nat)).toInt = (b.length : Nat) ∧ ∀ x ∈ b, (Int32.ofInt x).toInt = x := by decide +kernel
theorem prim_inR {cmi : Nat} {as : List AV} {x : Int} (h : amPrim cmi as = some x) : inR x := by
  unfold amPrim at h
  split at h
  case h_1 j =>
    split at h
    case isTrue =>
      obtain ⟨b, hb, rfl⟩ := Option.map_eq_some_iff.mp h
      exact (sBytes_ok b (List.mem_of_getElem? hb)).1
    case isFalse => cases h
  case h_2 j k =>
    split at h
    case isFalse => cases h
    case isTrue =>
      split at h
      case h_2 => cases h
      case h_1 b hb =>
        split at h
        case isFalse => cases h
        case isTrue hk =>
          cases h
          have hk := (row_toNat hk).2.2
          rw [List.getD_eq_getElem?_getD, List.getElem?_eq_getElem hk]
          exact (sBytes_ok b (List.mem_of_getElem? hb)).2 _ (List.getElem_mem hk)
  case h_3 => cases h
section
variable {sc : Nat × (Nat → Int)}
theorem AMwf.copy {I : IH} {L : LH} {R : RH} {K : KH} (hw : AMwf I L R K) {a sp b dp n : Nat} (hb : b < K.2.2.1) : AMwf (copyI I a sp b dp n) L R K := by
  refine ⟨fun c j => ?_, hw.2.1, hw.2.2.1, fun c j hc => ?_, hw.2.2.2.2⟩
  · unfold copyI
    split
    · exact hw.1 _ _
    · exact hw.1 _ _
  · have h1 := hw.2.2.2.1 c j hc
    unfold copyI
    rw [if_neg (by omega)]
    exact h1
theorem run_wf (hsc : sc.1 ≤ 65536 ∧ ∀ j, inR (sc.2 j)) : ∀ (f mi pc : Nat) (ls : ALs) (st : List AV) (I : IH) (L : LH) (R : RH) (K : KH) (rv : Option AV) (I1 : IH) (L1 : LH) (R1 : RH) (K1 : KH), amRun sc f mi pc ls st I L R K = some (rv, I1, L1, R1, K1) → AMwf I L R K → okS K.2.2.1 st → okL K.2.2.1 ls → AMwf I1 L1 R1 K1 ∧ (∀ v, rv = some v → okV K1.2.2.1 v) ∧ K.2.2.1 ≤ K1.2.2.1 ∧ K.2.2.2 ≤ K1.2.2.2 := by
  intro f
  induction f with
  | zero => intro mi pc ls st I L R K rv I1 L1 R1 K1 h; cases h
  | succ f ih =>
    intro mi pc ls st I L R K rv I1 L1 R1 K1 h hw hst hls
    obtain ⟨i, n, hd, hn, hc⟩ := run_inv h
    rcases hc with ⟨x, -, rfl, -, hr⟩ | ⟨a, -, rfl, -, hr⟩ | ⟨j, -, rfl, -, hr⟩ | ⟨-, -, -, hr⟩ | ⟨idx, k, dp, b, sp, a, r, -, -, rfl, hcc, hrun⟩ | ⟨idx, cmi, x, y, r, -, hco, -, hrun⟩ | ⟨idx, ks, cmi, as, r, rv2, I2, L2, R2, K2, -, hco, -, -, hrun1, hrun⟩ | ⟨idx, cmi, as, r, x, -, hco, -, hp, hrun⟩ | ⟨idx, a, r, -, -, rfl, -, hrun⟩ | ⟨g, hs, hrun⟩
    · cases hr
      exact ⟨hw, fun v hv => by cases hv; exact hst.hd, Nat.le_refl _, Nat.le_refl _⟩
    · cases hr
      exact ⟨hw, fun v hv => by cases hv; exact hst.hd, Nat.le_refl _, Nat.le_refl _⟩
    · cases hr
      exact ⟨hw, fun v hv => by cases hv; trivial, Nat.le_refl _, Nat.le_refl _⟩
    · cases hr
      exact ⟨hw, (fun v hv => by cases hv), Nat.le_refl _, Nat.le_refl _⟩
    · exact ih _ _ _ _ _ _ _ _ _ _ _ _ _ hrun (hw.copy (hw.2.2.1 b (by omega))) hst.tl.tl.tl.tl.tl hls
    · obtain ⟨nest, hc1, hc2, hc3, hc4, hc5, hc6, hc7⟩ := callOf_spec hco
      have hst2 : okS K.2.2.1 ([aI y, aI x] ++ r) := by rw [hc3] at hst; exact hst
      refine ih _ _ _ _ _ _ _ _ _ _ _ _ _ hrun hw (okS_cons ?_ hst2.tl.tl) hls
      show inR (minMax cmi x y)
      unfold minMax
      split <;> split <;> first | exact hst2.hd | exact hst2.tl.hd
    · obtain ⟨nest, hc1, hc2, hc3, hc4, hc5, hc6, hc7⟩ := callOf_spec hco
      have has : okS K.2.2.1 as := okS_rev fun v hv => hst v (by rw [hc3]; exact List.mem_append_left _ hv)
      have hr : okS K.2.2.1 r := fun v hv => hst v (by rw [hc3]; exact List.mem_append_right _ hv)
      obtain ⟨h1, h2, h3, h4⟩ := ih _ _ _ _ _ _ _ _ _ _ _ _ _ hrun1 hw (fun v hv => by cases hv) (okL_pad has)
      obtain ⟨g1, g2, g3, g4⟩ := ih _ _ _ _ _ _ _ _ _ _ _ _ _ hrun h1 (okS_app (fun v hv => h2 v (Option.mem_toList.mp hv)) (hr.mono h3)) (hls.mono h3)
      exact ⟨g1, g2, Nat.le_trans h3 g3, Nat.le_trans h4 g4⟩
    · obtain ⟨nest, hc1, hc2, hc3, hc4, hc5, hc6, hc7⟩ := callOf_spec hco
      have hr : okS K.2.2.1 r := fun v hv => hst v (by rw [hc3]; exact List.mem_append_right _ hv)
      exact ih _ _ _ _ _ _ _ _ _ _ _ _ _ hrun hw (okS_cons (prim_inR hp) hr) hls
    · exact ih _ _ _ _ _ _ _ _ _ _ _ _ _ hrun hw hst.tl hls
    · obtain ⟨w1, w2, w3, w4, w5⟩ := stepL_wf hsc hw hst hls hs
      obtain ⟨g1, g2, g3, g4⟩ := ih _ _ _ _ _ _ _ _ _ _ _ _ _ hrun w1 w2 w3
      exact ⟨g1, g2, Nat.le_trans w4 g3, Nat.le_trans w5 g4⟩
end
/-! a method's entry -/
theorem sl_len {am fx : Nat → Nat} : ∀ as : List AV, (lg_sl (as.map (cv am fx))).length = (mkL as).length := by
  intro as
  induction as with
  | nil => rfl
  | cons v r ih =>
    have e1 : lg_sl ((v :: r).map (cv am fx)) = (if (cv am fx v).category = 2 then [Slot.val (cv am fx v), Slot.second] else [Slot.val (cv am fx v)]) ++ lg_sl (r.map (cv am fx)) := rfl
    rw [e1, List.length_append, ih]
    show _ = (if isLng v = true then some v :: none :: mkL r else some v :: mkL r).length
    cases hv : isLng v with
    | true =>
      rw [cv_cat]
      simp [catA, hv]
      omega
    | false =>
      rw [cv_cat]
      simp [catA, hv]
      omega
theorem lv_args_mem {am fx : Nat → Nat} : ∀ (as : List AV) (i k : Nat) (v : AV), (mkL as)[k]? = some (some v) → (i + k, cv am fx v) ∈ lv_args i (as.map (cv am fx)) := by
  intro as
  induction as with
  | nil => intro i k v h; simp [mkL] at h
  | cons w r ih =>
    intro i k v h
    show _ ∈ (i, cv am fx w) :: lv_args (if (cv am fx w).category = 2 then i + 2 else i + 1) (r.map (cv am fx))
    unfold mkL at h
    rw [cv_cat]
    cases hw : isLng w with
    | true =>
      rw [if_pos hw] at h
      match k, h with
      | 0, h =>
        cases h
        exact List.mem_cons_self
      | 1, h => cases h
      | k + 2, h =>
        have h1 := ih (i + 2) k v h
        rw [show i + (k + 2) = i + 2 + k by omega]
        refine List.mem_cons_of_mem _ ?_
        simp only [catA, hw, if_true]
        exact h1
    | false =>
      rw [if_neg (by rw [hw]; exact Bool.false_ne_true)] at h
      match k, h with
      | 0, h =>
        cases h
        exact List.mem_cons_self
      | k + 1, h =>
        have h1 := ih (i + 1) k v h
        rw [show i + (k + 1) = i + 1 + k by omega]
        refine List.mem_cons_of_mem _ ?_
        simp only [catA, hw]
        exact h1
theorem entry_LRel {am fx : Nat → Nat} {as : List AV} {n : Nat} (h : (mkL as).length ≤ n) : LRel am fx ((lg_sl (as.map (cv am fx)) ++ List.replicate (n - (lg_sl (as.map (cv am fx))).length) Slot.unset).toArray) n (padL n (mkL as)) := by
  have h1 := lv_entry (as.map (cv am fx)) (n := n) (by rw [sl_len]; exact h)
  refine ⟨h1.1, by simp [padL]; omega, h1.2.1, fun k v hv => ?_⟩
  unfold padL at hv
  by_cases hk : k < (mkL as).length
  · rw [List.getElem?_append_left hk] at hv
    have := h1.2.2 _ (lv_args_mem (am := am) (fx := fx) as 0 k v hv)
    simpa using this
  · rw [List.getElem?_append_right (by omega)] at hv
    have := List.mem_of_getElem? hv
    cases (List.mem_replicate.mp this).2
