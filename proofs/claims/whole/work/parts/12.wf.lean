/-! each step keeps AM's heap well formed (by program) -/
theorem okS_cons {sz : Nat} {v : AV} {r : List AV} (h : okV sz v) (hr : okS sz r) : okS sz (v :: r) := fun w hw => by
  rcases List.mem_cons.mp hw with rfl | hw
  · exact h
  · exact hr w hw
theorem okS.hd {sz : Nat} {v : AV} {r : List AV} (h : okS sz (v :: r)) : okV sz v := h v List.mem_cons_self
theorem okS.tl {sz : Nat} {v : AV} {r : List AV} (h : okS sz (v :: r)) : okS sz r := fun w hw => h w (List.mem_cons_of_mem _ hw)
theorem okS.mono {a b : Nat} (h : a ≤ b) {r : List AV} (hr : okS a r) : okS b r := fun w hw => okV_mono h (hr w hw)
theorem okL.mono {a b : Nat} (h : a ≤ b) {r : ALs} (hr : okL a r) : okL b r := fun w hw => okV_mono h (hr w hw)
theorem okL.get {sz : Nat} {ls : ALs} {k : Nat} {v : AV} (h : okL sz ls) (hv : aget ls k = some v) : okV sz v := h v (List.mem_of_getElem? (aget_some hv))
theorem okL.set {sz : Nat} {ls l1 : ALs} {k : Nat} {v : AV} (h : okL sz ls) (hv : okV sz v) (ha : aset ls k v = some l1) : okL sz l1 := by
  unfold aset at ha
  split at ha
  case isFalse => cases ha
  case isTrue =>
    cases ha
    intro w hw
    rcases List.mem_or_eq_of_mem_set hw with h1 | h1
    · exact h w h1
    · cases h1
      exact hv
theorem okL.set2 {sz : Nat} {ls l1 : ALs} {k : Nat} {v : AV} (h : okL sz ls) (hv : okV sz v) (ha : aset2 ls k v = some l1) : okL sz l1 := by
  unfold aset2 at ha
  split at ha
  case isFalse => cases ha
  case isTrue =>
    cases ha
    intro w hw
    rcases List.mem_or_eq_of_mem_set hw with h1 | h1
    · rcases List.mem_or_eq_of_mem_set h1 with h2 | h2
      · exact h w h2
      · cases h2
        exact hv
    · cases h1
theorem AMwf.setI {I : IH} {L : LH} {R : RH} {K : KH} (hw : AMwf I L R K) {a k : Nat} {x : Int} (hx : inR x) (ha : a < K.2.2.1) : AMwf (setF I a k x) L R K := by
  refine ⟨fun b j => ?_, hw.2.1, hw.2.2.1, fun b j hb => ?_, hw.2.2.2.2⟩
  · unfold setF
    split
    · exact hx
    · exact hw.1 b j
  · rw [setF_ne (by omega)]
    exact hw.2.2.2.1 b j hb
theorem AMwf.setL {I : IH} {L : LH} {R : RH} {K : KH} (hw : AMwf I L R K) {a k : Nat} {x : Int64} (ha : a < K.2.2.1) : AMwf I (setF L a k x) R K := by
  refine ⟨hw.1, hw.2.1, hw.2.2.1, fun b j hb => ?_, hw.2.2.2.2⟩
  rw [setF_ne (by omega)]
  exact hw.2.2.2.1 b j hb
theorem AMwf.setR {I : IH} {L : LH} {R : RH} {K : KH} (hw : AMwf I L R K) {a k : Nat} {x : Option Nat} (hx : ∀ r, x = some r → r < K.2.2.1) (ha : a < K.2.2.1) : AMwf I L (setF R a k x) K := by
  refine ⟨hw.1, fun b j r h => ?_, hw.2.2.1, fun b j hb => ?_, hw.2.2.2.2⟩
  · unfold setF at h
    split at h
    · exact hx r h
    · exact hw.2.1 b j r h
  · rw [setF_ne (by omega)]
    exact hw.2.2.2.1 b j hb
theorem AMwf.alloc {I : IH} {L : LH} {R : RH} {K : KH} (hw : AMwf I L R K) {kind len : Nat} (hl : len ≤ 65536) : AMwf I L R (amAlloc K kind len) := by
  refine ⟨hw.1, fun b j r h => Nat.lt_succ_of_lt (hw.2.1 b j r h), fun b hb => ?_, fun b j hb => hw.2.2.2.1 b j (Nat.le_of_succ_le hb), fun b => ?_⟩
  · show b < K.2.2.1 + 1
    by_cases e : b = K.2.2.1
    · omega
    · have h1 : (amAlloc K kind len).1 b = K.1 b := if_neg e
      rw [h1] at hb
      have := hw.2.2.1 b hb
      omega
  · by_cases e : b = K.2.2.1
    · rw [show (amAlloc K kind len).2.1 b = len from if_pos e]
      exact hl
    · rw [show (amAlloc K kind len).2.1 b = K.2.1 b from if_neg e]
      exact hw.2.2.2.2 b
theorem AMwf.alloc2 {I : IH} {L : LH} {R : RH} {K : KH} (hw : AMwf I L R K) {n k : Nat} (hn : n ≤ 65536) (hk : k ≤ 65536) : AMwf I L (rows2 R K.2.2.1 n) (amAlloc2 K n k) := by
  refine ⟨hw.1, fun b j r h => ?_, fun b hb => ?_, fun b j hb => ?_, fun b => ?_⟩
  · show r < K.2.2.1 + 1 + n
    unfold rows2 at h
    split at h
    · cases h
      omega
    · have := hw.2.1 b j r h
      omega
  · show b < K.2.2.1 + 1 + n
    by_cases e : b = K.2.2.1
    · omega
    · by_cases e2 : K.2.2.1 < b ∧ b ≤ K.2.2.1 + n
      · omega
      · have h1 : (amAlloc2 K n k).1 b = K.1 b := by
          show (if b = K.2.2.1 then 105 else if K.2.2.1 < b ∧ b ≤ K.2.2.1 + n then 100 else K.1 b) = _
          rw [if_neg e, if_neg e2]
        rw [h1] at hb
        have := hw.2.2.1 b hb
        omega
  · have hb : K.2.2.1 + 1 + n ≤ b := hb
    have h1 := hw.2.2.2.1 b j (by omega)
    refine ⟨h1.1, h1.2.1, ?_⟩
    unfold rows2
    rw [if_neg (by omega)]
    exact h1.2.2
  · show (if b = K.2.2.1 then n else if K.2.2.1 < b ∧ b ≤ K.2.2.1 + n then k else K.2.1 b) ≤ 65536
    split
    · exact hn
    · split
      · exact hk
      · exact hw.2.2.2.2 b
theorem inR_nat {i : Int} (h0 : 0 ≤ i) (h1 : i ≤ 65536) : inR i := by
  unfold inR
  rw [Int32.toInt_ofInt]
  unfold Int.bmod
  simp only [show Int32.size = 4294967296 from rfl]
  omega
/-- what a state of AM is -/
def WFc (sz ns : Nat) (g : ACfg) : Prop := AMwf g.2.2.2.1 g.2.2.2.2.1 g.2.2.2.2.2.1 g.2.2.2.2.2.2 ∧ okS g.2.2.2.2.2.2.2.2.1 g.2.2.1 ∧ okL g.2.2.2.2.2.2.2.2.1 g.2.1 ∧ sz ≤ g.2.2.2.2.2.2.2.2.1 ∧ ns ≤ g.2.2.2.2.2.2.2.2.2
theorem nFld_le (ci : Nat) : nFld ci ≤ 65536 := by
  unfold nFld clAt
  rw [List.getD_eq_getElem?_getD]
  cases h : amCl[ci]? with
  | none => exact Nat.zero_le _
  | some q =>
    have h2 : ∀ q ∈ amCl, q.2.2 ≤ 65536 := by decide +kernel
    exact h2 q (List.mem_of_getElem? h)
section
variable {sc : Nat × (Nat → Int)} {mi n pc : Nat} {ls : ALs} {st : List AV} {I : IH} {L : LH} {R : RH} {K : KH} {g : ACfg}
theorem okR {a k : Nat} (hw : AMwf I L R K) : okV K.2.2.1 (aR (R a k)) := by
  cases h : R a k with
  | none => trivial
  | some r => exact hw.2.1 a k r h
set_option maxHeartbeats 4000000 in
theorem w_iconst {k : Int} (hsc : sc.1 ≤ 65536 ∧ ∀ j, inR (sc.2 j)) (hw : AMwf I L R K) (hst : okS K.2.2.1 st) (hls : okL K.2.2.1 ls) (h : stepL sc mi (.iconst k) n pc ls st I L R K = some g) : WFc K.2.2.1 K.2.2.2 g := by
  simp only [stepL] at h
  cases h
  exact ⟨hw, okS_cons (inR_toInt _) hst, hls, Nat.le_refl _, Nat.le_refl _⟩

set_option maxHeartbeats 4000000 in
theorem w_bipush {k : Int} (hsc : sc.1 ≤ 65536 ∧ ∀ j, inR (sc.2 j)) (hw : AMwf I L R K) (hst : okS K.2.2.1 st) (hls : okL K.2.2.1 ls) (h : stepL sc mi (.bipush k) n pc ls st I L R K = some g) : WFc K.2.2.1 K.2.2.2 g := by
  simp only [stepL] at h
  cases h
  exact ⟨hw, okS_cons (inR_toInt _) hst, hls, Nat.le_refl _, Nat.le_refl _⟩

set_option maxHeartbeats 4000000 in
theorem w_sipush {k : Int} (hsc : sc.1 ≤ 65536 ∧ ∀ j, inR (sc.2 j)) (hw : AMwf I L R K) (hst : okS K.2.2.1 st) (hls : okL K.2.2.1 ls) (h : stepL sc mi (.sipush k) n pc ls st I L R K = some g) : WFc K.2.2.1 K.2.2.2 g := by
  simp only [stepL] at h
  cases h
  exact ⟨hw, okS_cons (inR_toInt _) hst, hls, Nat.le_refl _, Nat.le_refl _⟩

set_option maxHeartbeats 4000000 in
theorem w_lconst {k : Fin 2} (hsc : sc.1 ≤ 65536 ∧ ∀ j, inR (sc.2 j)) (hw : AMwf I L R K) (hst : okS K.2.2.1 st) (hls : okL K.2.2.1 ls) (h : stepL sc mi (.lconst k) n pc ls st I L R K = some g) : WFc K.2.2.1 K.2.2.2 g := by
  simp only [stepL] at h
  cases h
  exact ⟨hw, okS_cons trivial hst, hls, Nat.le_refl _, Nat.le_refl _⟩

set_option maxHeartbeats 4000000 in
theorem w_ldc {k : Nat} (hsc : sc.1 ≤ 65536 ∧ ∀ j, inR (sc.2 j)) (hw : AMwf I L R K) (hst : okS K.2.2.1 st) (hls : okL K.2.2.1 ls) (h : stepL sc mi (.ldc k) n pc ls st I L R K = some g) : WFc K.2.2.1 K.2.2.2 g := by
  simp only [stepL] at h
  split at h
  case h_2 => cases h
  case h_1 v hv =>
    split at h
    case isTrue => cases h
    case isFalse hlg =>
      cases h
      rcases lSite_spec hv with ⟨x, rfl, hx, hw1⟩ | ⟨y, rfl, -⟩ | ⟨j, tx, rfl, hj⟩
      · exact ⟨hw, okS_cons hx hst, hls, Nat.le_refl _, Nat.le_refl _⟩
      · exact ⟨hw, okS_cons trivial hst, hls, Nat.le_refl _, Nat.le_refl _⟩
      · exact ⟨hw, okS_cons trivial hst, hls, Nat.le_refl _, Nat.le_refl _⟩

set_option maxHeartbeats 4000000 in
theorem w_ldc_w {k : Nat} (hsc : sc.1 ≤ 65536 ∧ ∀ j, inR (sc.2 j)) (hw : AMwf I L R K) (hst : okS K.2.2.1 st) (hls : okL K.2.2.1 ls) (h : stepL sc mi (.ldc_w k) n pc ls st I L R K = some g) : WFc K.2.2.1 K.2.2.2 g := by
  simp only [stepL] at h
  split at h
  case h_2 => cases h
  case h_1 v hv =>
    split at h
    case isTrue => cases h
    case isFalse hlg =>
      cases h
      rcases lSite_spec hv with ⟨x, rfl, hx, hw1⟩ | ⟨y, rfl, -⟩ | ⟨j, tx, rfl, hj⟩
      · exact ⟨hw, okS_cons hx hst, hls, Nat.le_refl _, Nat.le_refl _⟩
      · exact ⟨hw, okS_cons trivial hst, hls, Nat.le_refl _, Nat.le_refl _⟩
      · exact ⟨hw, okS_cons trivial hst, hls, Nat.le_refl _, Nat.le_refl _⟩

set_option maxHeartbeats 4000000 in
theorem w_ldc2_w {k : Nat} (hsc : sc.1 ≤ 65536 ∧ ∀ j, inR (sc.2 j)) (hw : AMwf I L R K) (hst : okS K.2.2.1 st) (hls : okL K.2.2.1 ls) (h : stepL sc mi (.ldc2_w k) n pc ls st I L R K = some g) : WFc K.2.2.1 K.2.2.2 g := by
  simp only [stepL] at h
  split at h
  case h_2 => cases h
  case h_1 v hv =>
    cases h
    exact ⟨hw, okS_cons trivial hst, hls, Nat.le_refl _, Nat.le_refl _⟩

set_option maxHeartbeats 4000000 in
theorem w_iload {k : Nat} (hsc : sc.1 ≤ 65536 ∧ ∀ j, inR (sc.2 j)) (hw : AMwf I L R K) (hst : okS K.2.2.1 st) (hls : okL K.2.2.1 ls) (h : stepL sc mi (.iload k) n pc ls st I L R K = some g) : WFc K.2.2.1 K.2.2.2 g := by
  simp only [stepL] at h
  split at h
  case h_2 => cases h
  case h_1 x hx =>
    cases h
    exact ⟨hw, okS_cons (hls.get hx) hst, hls, Nat.le_refl _, Nat.le_refl _⟩

set_option maxHeartbeats 4000000 in
theorem w_iload_n {k : Fin 4} (hsc : sc.1 ≤ 65536 ∧ ∀ j, inR (sc.2 j)) (hw : AMwf I L R K) (hst : okS K.2.2.1 st) (hls : okL K.2.2.1 ls) (h : stepL sc mi (.iload_n k) n pc ls st I L R K = some g) : WFc K.2.2.1 K.2.2.2 g := by
  simp only [stepL] at h
  split at h
  case h_2 => cases h
  case h_1 x hx =>
    cases h
    exact ⟨hw, okS_cons (hls.get hx) hst, hls, Nat.le_refl _, Nat.le_refl _⟩

set_option maxHeartbeats 4000000 in
theorem w_lload_n {k : Fin 4} (hsc : sc.1 ≤ 65536 ∧ ∀ j, inR (sc.2 j)) (hw : AMwf I L R K) (hst : okS K.2.2.1 st) (hls : okL K.2.2.1 ls) (h : stepL sc mi (.lload_n k) n pc ls st I L R K = some g) : WFc K.2.2.1 K.2.2.2 g := by
  simp only [stepL] at h
  split at h
  case h_2 => cases h
  case h_1 x hx =>
    cases h
    exact ⟨hw, okS_cons (hls.get hx) hst, hls, Nat.le_refl _, Nat.le_refl _⟩

set_option maxHeartbeats 4000000 in
theorem w_aload {k : Nat} (hsc : sc.1 ≤ 65536 ∧ ∀ j, inR (sc.2 j)) (hw : AMwf I L R K) (hst : okS K.2.2.1 st) (hls : okL K.2.2.1 ls) (h : stepL sc mi (.aload k) n pc ls st I L R K = some g) : WFc K.2.2.1 K.2.2.2 g := by
  simp only [stepL] at h
  split at h
  case h_1 x hx =>
    cases h
    exact ⟨hw, okS_cons (hls.get hx) hst, hls, Nat.le_refl _, Nat.le_refl _⟩
  case h_2 x hx =>
    cases h
    exact ⟨hw, okS_cons trivial hst, hls, Nat.le_refl _, Nat.le_refl _⟩
  case h_3 => cases h

set_option maxHeartbeats 4000000 in
theorem w_aload_n {k : Fin 4} (hsc : sc.1 ≤ 65536 ∧ ∀ j, inR (sc.2 j)) (hw : AMwf I L R K) (hst : okS K.2.2.1 st) (hls : okL K.2.2.1 ls) (h : stepL sc mi (.aload_n k) n pc ls st I L R K = some g) : WFc K.2.2.1 K.2.2.2 g := by
  simp only [stepL] at h
  split at h
  case h_1 x hx =>
    cases h
    exact ⟨hw, okS_cons (hls.get hx) hst, hls, Nat.le_refl _, Nat.le_refl _⟩
  case h_2 x hx =>
    cases h
    exact ⟨hw, okS_cons trivial hst, hls, Nat.le_refl _, Nat.le_refl _⟩
  case h_3 => cases h

set_option maxHeartbeats 4000000 in
theorem w_istore {k : Nat} (hsc : sc.1 ≤ 65536 ∧ ∀ j, inR (sc.2 j)) (hw : AMwf I L R K) (hst : okS K.2.2.1 st) (hls : okL K.2.2.1 ls) (h : stepL sc mi (.istore k) n pc ls st I L R K = some g) : WFc K.2.2.1 K.2.2.2 g := by
  simp only [stepL] at h
  split at h
  case h_2 => cases h
  case h_1 x r =>
    obtain ⟨l1, ha, hg⟩ := Option.map_eq_some_iff.mp h
    cases hg
    exact ⟨hw, hst.tl, hls.set hst.hd ha, Nat.le_refl _, Nat.le_refl _⟩

set_option maxHeartbeats 4000000 in
theorem w_istore_n {k : Fin 4} (hsc : sc.1 ≤ 65536 ∧ ∀ j, inR (sc.2 j)) (hw : AMwf I L R K) (hst : okS K.2.2.1 st) (hls : okL K.2.2.1 ls) (h : stepL sc mi (.istore_n k) n pc ls st I L R K = some g) : WFc K.2.2.1 K.2.2.2 g := by
  simp only [stepL] at h
  split at h
  case h_2 => cases h
  case h_1 x r =>
    obtain ⟨l1, ha, hg⟩ := Option.map_eq_some_iff.mp h
    cases hg
    exact ⟨hw, hst.tl, hls.set hst.hd ha, Nat.le_refl _, Nat.le_refl _⟩

set_option maxHeartbeats 4000000 in
theorem w_astore {k : Nat} (hsc : sc.1 ≤ 65536 ∧ ∀ j, inR (sc.2 j)) (hw : AMwf I L R K) (hst : okS K.2.2.1 st) (hls : okL K.2.2.1 ls) (h : stepL sc mi (.astore k) n pc ls st I L R K = some g) : WFc K.2.2.1 K.2.2.2 g := by
  simp only [stepL] at h
  split at h
  case h_2 => cases h
  case h_1 x r =>
    obtain ⟨l1, ha, hg⟩ := Option.map_eq_some_iff.mp h
    cases hg
    exact ⟨hw, hst.tl, hls.set hst.hd ha, Nat.le_refl _, Nat.le_refl _⟩

set_option maxHeartbeats 4000000 in
theorem w_astore_n {k : Fin 4} (hsc : sc.1 ≤ 65536 ∧ ∀ j, inR (sc.2 j)) (hw : AMwf I L R K) (hst : okS K.2.2.1 st) (hls : okL K.2.2.1 ls) (h : stepL sc mi (.astore_n k) n pc ls st I L R K = some g) : WFc K.2.2.1 K.2.2.2 g := by
  simp only [stepL] at h
  split at h
  case h_2 => cases h
  case h_1 x r =>
    obtain ⟨l1, ha, hg⟩ := Option.map_eq_some_iff.mp h
    cases hg
    exact ⟨hw, hst.tl, hls.set hst.hd ha, Nat.le_refl _, Nat.le_refl _⟩

set_option maxHeartbeats 4000000 in
theorem w_lstore_n {k : Fin 4} (hsc : sc.1 ≤ 65536 ∧ ∀ j, inR (sc.2 j)) (hw : AMwf I L R K) (hst : okS K.2.2.1 st) (hls : okL K.2.2.1 ls) (h : stepL sc mi (.lstore_n k) n pc ls st I L R K = some g) : WFc K.2.2.1 K.2.2.2 g := by
  simp only [stepL] at h
  split at h
  case h_2 => cases h
  case h_1 x r =>
    obtain ⟨l1, ha, hg⟩ := Option.map_eq_some_iff.mp h
    cases hg
    exact ⟨hw, hst.tl, hls.set2 hst.hd ha, Nat.le_refl _, Nat.le_refl _⟩

set_option maxHeartbeats 4000000 in
theorem w_iinc {k : Nat} {z : Int} (hsc : sc.1 ≤ 65536 ∧ ∀ j, inR (sc.2 j)) (hw : AMwf I L R K) (hst : okS K.2.2.1 st) (hls : okL K.2.2.1 ls) (h : stepL sc mi (.iinc k z) n pc ls st I L R K = some g) : WFc K.2.2.1 K.2.2.2 g := by
  simp only [stepL] at h
  split at h
  case h_2 => cases h
  case h_1 x hx =>
    split at h
    case isFalse => cases h
    case isTrue hn2 =>
      obtain ⟨l1, ha, hg⟩ := Option.map_eq_some_iff.mp h
      cases hg
      exact ⟨hw, hst, hls.set (v := aI _) (inR_toInt _) ha, Nat.le_refl _, Nat.le_refl _⟩

set_option maxHeartbeats 4000000 in
theorem w_dup (hsc : sc.1 ≤ 65536 ∧ ∀ j, inR (sc.2 j)) (hw : AMwf I L R K) (hst : okS K.2.2.1 st) (hls : okL K.2.2.1 ls) (h : stepL sc mi (.dup) n pc ls st I L R K = some g) : WFc K.2.2.1 K.2.2.2 g := by
  simp only [stepL] at h
  split at h
  case h_2 => cases h
  case h_1 v r =>
    split at h
    case isTrue => cases h
    case isFalse hv =>
      cases h
      exact ⟨hw, okS_cons hst.hd hst, hls, Nat.le_refl _, Nat.le_refl _⟩

set_option maxHeartbeats 4000000 in
theorem w_dup2 (hsc : sc.1 ≤ 65536 ∧ ∀ j, inR (sc.2 j)) (hw : AMwf I L R K) (hst : okS K.2.2.1 st) (hls : okL K.2.2.1 ls) (h : stepL sc mi (.dup2) n pc ls st I L R K = some g) : WFc K.2.2.1 K.2.2.2 g := by
  simp only [stepL] at h
  split at h
  case h_2 => cases h
  case h_1 v w r =>
    split at h
    case isTrue => cases h
    case isFalse hv =>
      cases h
      exact ⟨hw, okS_cons hst.hd (okS_cons hst.tl.hd hst), hls, Nat.le_refl _, Nat.le_refl _⟩

set_option maxHeartbeats 4000000 in
theorem w_pop (hsc : sc.1 ≤ 65536 ∧ ∀ j, inR (sc.2 j)) (hw : AMwf I L R K) (hst : okS K.2.2.1 st) (hls : okL K.2.2.1 ls) (h : stepL sc mi (.pop) n pc ls st I L R K = some g) : WFc K.2.2.1 K.2.2.2 g := by
  simp only [stepL] at h
  split at h
  case h_2 => cases h
  case h_1 v r =>
    split at h
    case isTrue => cases h
    case isFalse hv =>
      cases h
      exact ⟨hw, hst.tl, hls, Nat.le_refl _, Nat.le_refl _⟩

set_option maxHeartbeats 4000000 in
theorem w_i2b (hsc : sc.1 ≤ 65536 ∧ ∀ j, inR (sc.2 j)) (hw : AMwf I L R K) (hst : okS K.2.2.1 st) (hls : okL K.2.2.1 ls) (h : stepL sc mi (.i2b) n pc ls st I L R K = some g) : WFc K.2.2.1 K.2.2.2 g := by
  simp only [stepL] at h
  split at h
  case h_2 => cases h
  case h_1 x r =>
    cases h
    exact ⟨hw, okS_cons (inR_toInt _) hst.tl, hls, Nat.le_refl _, Nat.le_refl _⟩

set_option maxHeartbeats 4000000 in
theorem w_i2s (hsc : sc.1 ≤ 65536 ∧ ∀ j, inR (sc.2 j)) (hw : AMwf I L R K) (hst : okS K.2.2.1 st) (hls : okL K.2.2.1 ls) (h : stepL sc mi (.i2s) n pc ls st I L R K = some g) : WFc K.2.2.1 K.2.2.2 g := by
  simp only [stepL] at h
  split at h
  case h_2 => cases h
  case h_1 x r =>
    cases h
    exact ⟨hw, okS_cons (inR_toInt _) hst.tl, hls, Nat.le_refl _, Nat.le_refl _⟩

set_option maxHeartbeats 4000000 in
theorem w_l2i (hsc : sc.1 ≤ 65536 ∧ ∀ j, inR (sc.2 j)) (hw : AMwf I L R K) (hst : okS K.2.2.1 st) (hls : okL K.2.2.1 ls) (h : stepL sc mi (.l2i) n pc ls st I L R K = some g) : WFc K.2.2.1 K.2.2.2 g := by
  simp only [stepL] at h
  split at h
  case h_2 => cases h
  case h_1 x r =>
    cases h
    exact ⟨hw, okS_cons (inR_toInt _) hst.tl, hls, Nat.le_refl _, Nat.le_refl _⟩

set_option maxHeartbeats 4000000 in
theorem w_lcmp (hsc : sc.1 ≤ 65536 ∧ ∀ j, inR (sc.2 j)) (hw : AMwf I L R K) (hst : okS K.2.2.1 st) (hls : okL K.2.2.1 ls) (h : stepL sc mi (.lcmp) n pc ls st I L R K = some g) : WFc K.2.2.1 K.2.2.2 g := by
  simp only [stepL] at h
  split at h
  case h_2 => cases h
  case h_1 y x r =>
    cases h
    exact ⟨hw, okS_cons (inR_toInt _) hst.tl.tl, hls, Nat.le_refl _, Nat.le_refl _⟩

set_option maxHeartbeats 4000000 in
theorem w_lushr (hsc : sc.1 ≤ 65536 ∧ ∀ j, inR (sc.2 j)) (hw : AMwf I L R K) (hst : okS K.2.2.1 st) (hls : okL K.2.2.1 ls) (h : stepL sc mi (.lushr) n pc ls st I L R K = some g) : WFc K.2.2.1 K.2.2.2 g := by
  simp only [stepL] at h
  split at h
  case h_2 => cases h
  case h_1 y x r =>
    cases h
    exact ⟨hw, okS_cons trivial hst.tl.tl, hls, Nat.le_refl _, Nat.le_refl _⟩

set_option maxHeartbeats 4000000 in
theorem w_lshl (hsc : sc.1 ≤ 65536 ∧ ∀ j, inR (sc.2 j)) (hw : AMwf I L R K) (hst : okS K.2.2.1 st) (hls : okL K.2.2.1 ls) (h : stepL sc mi (.lshl) n pc ls st I L R K = some g) : WFc K.2.2.1 K.2.2.2 g := by
  simp only [stepL] at h
  split at h
  case h_2 => cases h
  case h_1 y x r =>
    cases h
    exact ⟨hw, okS_cons trivial hst.tl.tl, hls, Nat.le_refl _, Nat.le_refl _⟩

set_option maxHeartbeats 4000000 in
theorem w_iadd (hsc : sc.1 ≤ 65536 ∧ ∀ j, inR (sc.2 j)) (hw : AMwf I L R K) (hst : okS K.2.2.1 st) (hls : okL K.2.2.1 ls) (h : stepL sc mi (.iadd) n pc ls st I L R K = some g) : WFc K.2.2.1 K.2.2.2 g := by
  simp only [stepL, stB] at h
  split at h
  case h_2 => cases h
  case h_1 y x r =>
    obtain ⟨v, hv, hg⟩ := Option.map_eq_some_iff.mp h
    cases hg
    exact ⟨hw, okS_cons (inR_toInt _) hst.tl.tl, hls, Nat.le_refl _, Nat.le_refl _⟩

set_option maxHeartbeats 4000000 in
theorem w_isub (hsc : sc.1 ≤ 65536 ∧ ∀ j, inR (sc.2 j)) (hw : AMwf I L R K) (hst : okS K.2.2.1 st) (hls : okL K.2.2.1 ls) (h : stepL sc mi (.isub) n pc ls st I L R K = some g) : WFc K.2.2.1 K.2.2.2 g := by
  simp only [stepL, stB] at h
  split at h
  case h_2 => cases h
  case h_1 y x r =>
    obtain ⟨v, hv, hg⟩ := Option.map_eq_some_iff.mp h
    cases hg
    exact ⟨hw, okS_cons (inR_toInt _) hst.tl.tl, hls, Nat.le_refl _, Nat.le_refl _⟩

set_option maxHeartbeats 4000000 in
theorem w_imul (hsc : sc.1 ≤ 65536 ∧ ∀ j, inR (sc.2 j)) (hw : AMwf I L R K) (hst : okS K.2.2.1 st) (hls : okL K.2.2.1 ls) (h : stepL sc mi (.imul) n pc ls st I L R K = some g) : WFc K.2.2.1 K.2.2.2 g := by
  simp only [stepL, stB] at h
  split at h
  case h_2 => cases h
  case h_1 y x r =>
    obtain ⟨v, hv, hg⟩ := Option.map_eq_some_iff.mp h
    cases hg
    exact ⟨hw, okS_cons (inR_toInt _) hst.tl.tl, hls, Nat.le_refl _, Nat.le_refl _⟩

set_option maxHeartbeats 4000000 in
theorem w_iand (hsc : sc.1 ≤ 65536 ∧ ∀ j, inR (sc.2 j)) (hw : AMwf I L R K) (hst : okS K.2.2.1 st) (hls : okL K.2.2.1 ls) (h : stepL sc mi (.iand) n pc ls st I L R K = some g) : WFc K.2.2.1 K.2.2.2 g := by
  simp only [stepL, stB] at h
  split at h
  case h_2 => cases h
  case h_1 y x r =>
    obtain ⟨v, hv, hg⟩ := Option.map_eq_some_iff.mp h
    cases hg
    exact ⟨hw, okS_cons (inR_toInt _) hst.tl.tl, hls, Nat.le_refl _, Nat.le_refl _⟩

set_option maxHeartbeats 4000000 in
theorem w_ior (hsc : sc.1 ≤ 65536 ∧ ∀ j, inR (sc.2 j)) (hw : AMwf I L R K) (hst : okS K.2.2.1 st) (hls : okL K.2.2.1 ls) (h : stepL sc mi (.ior) n pc ls st I L R K = some g) : WFc K.2.2.1 K.2.2.2 g := by
  simp only [stepL, stB] at h
  split at h
  case h_2 => cases h
  case h_1 y x r =>
    obtain ⟨v, hv, hg⟩ := Option.map_eq_some_iff.mp h
    cases hg
    exact ⟨hw, okS_cons (inR_toInt _) hst.tl.tl, hls, Nat.le_refl _, Nat.le_refl _⟩

set_option maxHeartbeats 4000000 in
theorem w_ixor (hsc : sc.1 ≤ 65536 ∧ ∀ j, inR (sc.2 j)) (hw : AMwf I L R K) (hst : okS K.2.2.1 st) (hls : okL K.2.2.1 ls) (h : stepL sc mi (.ixor) n pc ls st I L R K = some g) : WFc K.2.2.1 K.2.2.2 g := by
  simp only [stepL, stB] at h
  split at h
  case h_2 => cases h
  case h_1 y x r =>
    obtain ⟨v, hv, hg⟩ := Option.map_eq_some_iff.mp h
    cases hg
    exact ⟨hw, okS_cons (inR_toInt _) hst.tl.tl, hls, Nat.le_refl _, Nat.le_refl _⟩

set_option maxHeartbeats 4000000 in
theorem w_ishl (hsc : sc.1 ≤ 65536 ∧ ∀ j, inR (sc.2 j)) (hw : AMwf I L R K) (hst : okS K.2.2.1 st) (hls : okL K.2.2.1 ls) (h : stepL sc mi (.ishl) n pc ls st I L R K = some g) : WFc K.2.2.1 K.2.2.2 g := by
  simp only [stepL, stB] at h
  split at h
  case h_2 => cases h
  case h_1 y x r =>
    obtain ⟨v, hv, hg⟩ := Option.map_eq_some_iff.mp h
    cases hg
    exact ⟨hw, okS_cons (inR_toInt _) hst.tl.tl, hls, Nat.le_refl _, Nat.le_refl _⟩

set_option maxHeartbeats 4000000 in
theorem w_ishr (hsc : sc.1 ≤ 65536 ∧ ∀ j, inR (sc.2 j)) (hw : AMwf I L R K) (hst : okS K.2.2.1 st) (hls : okL K.2.2.1 ls) (h : stepL sc mi (.ishr) n pc ls st I L R K = some g) : WFc K.2.2.1 K.2.2.2 g := by
  simp only [stepL, stB] at h
  split at h
  case h_2 => cases h
  case h_1 y x r =>
    obtain ⟨v, hv, hg⟩ := Option.map_eq_some_iff.mp h
    cases hg
    exact ⟨hw, okS_cons (inR_toInt _) hst.tl.tl, hls, Nat.le_refl _, Nat.le_refl _⟩

set_option maxHeartbeats 4000000 in
theorem w_iushr (hsc : sc.1 ≤ 65536 ∧ ∀ j, inR (sc.2 j)) (hw : AMwf I L R K) (hst : okS K.2.2.1 st) (hls : okL K.2.2.1 ls) (h : stepL sc mi (.iushr) n pc ls st I L R K = some g) : WFc K.2.2.1 K.2.2.2 g := by
  simp only [stepL, stB] at h
  split at h
  case h_2 => cases h
  case h_1 y x r =>
    obtain ⟨v, hv, hg⟩ := Option.map_eq_some_iff.mp h
    cases hg
    exact ⟨hw, okS_cons (inR_toInt _) hst.tl.tl, hls, Nat.le_refl _, Nat.le_refl _⟩

set_option maxHeartbeats 4000000 in
theorem w_idiv (hsc : sc.1 ≤ 65536 ∧ ∀ j, inR (sc.2 j)) (hw : AMwf I L R K) (hst : okS K.2.2.1 st) (hls : okL K.2.2.1 ls) (h : stepL sc mi (.idiv) n pc ls st I L R K = some g) : WFc K.2.2.1 K.2.2.2 g := by
  simp only [stepL, stB] at h
  split at h
  case h_2 => cases h
  case h_1 y x r =>
    obtain ⟨v, hv, hg⟩ := Option.map_eq_some_iff.mp h
    cases hg
    exact ⟨hw, okS_cons (inR_toInt _) hst.tl.tl, hls, Nat.le_refl _, Nat.le_refl _⟩

set_option maxHeartbeats 4000000 in
theorem w_irem (hsc : sc.1 ≤ 65536 ∧ ∀ j, inR (sc.2 j)) (hw : AMwf I L R K) (hst : okS K.2.2.1 st) (hls : okL K.2.2.1 ls) (h : stepL sc mi (.irem) n pc ls st I L R K = some g) : WFc K.2.2.1 K.2.2.2 g := by
  simp only [stepL, stB] at h
  split at h
  case h_2 => cases h
  case h_1 y x r =>
    obtain ⟨v, hv, hg⟩ := Option.map_eq_some_iff.mp h
    cases hg
    exact ⟨hw, okS_cons (inR_toInt _) hst.tl.tl, hls, Nat.le_refl _, Nat.le_refl _⟩

set_option maxHeartbeats 4000000 in
theorem w_ladd (hsc : sc.1 ≤ 65536 ∧ ∀ j, inR (sc.2 j)) (hw : AMwf I L R K) (hst : okS K.2.2.1 st) (hls : okL K.2.2.1 ls) (h : stepL sc mi (.ladd) n pc ls st I L R K = some g) : WFc K.2.2.1 K.2.2.2 g := by
  simp only [stepL, stQ] at h
  split at h
  case h_2 => cases h
  case h_1 y x r =>
    obtain ⟨v, hv, hg⟩ := Option.map_eq_some_iff.mp h
    cases hg
    exact ⟨hw, okS_cons trivial hst.tl.tl, hls, Nat.le_refl _, Nat.le_refl _⟩

set_option maxHeartbeats 4000000 in
theorem w_lsub (hsc : sc.1 ≤ 65536 ∧ ∀ j, inR (sc.2 j)) (hw : AMwf I L R K) (hst : okS K.2.2.1 st) (hls : okL K.2.2.1 ls) (h : stepL sc mi (.lsub) n pc ls st I L R K = some g) : WFc K.2.2.1 K.2.2.2 g := by
  simp only [stepL, stQ] at h
  split at h
  case h_2 => cases h
  case h_1 y x r =>
    obtain ⟨v, hv, hg⟩ := Option.map_eq_some_iff.mp h
    cases hg
    exact ⟨hw, okS_cons trivial hst.tl.tl, hls, Nat.le_refl _, Nat.le_refl _⟩

set_option maxHeartbeats 4000000 in
theorem w_land (hsc : sc.1 ≤ 65536 ∧ ∀ j, inR (sc.2 j)) (hw : AMwf I L R K) (hst : okS K.2.2.1 st) (hls : okL K.2.2.1 ls) (h : stepL sc mi (.land) n pc ls st I L R K = some g) : WFc K.2.2.1 K.2.2.2 g := by
  simp only [stepL, stQ] at h
  split at h
  case h_2 => cases h
  case h_1 y x r =>
    obtain ⟨v, hv, hg⟩ := Option.map_eq_some_iff.mp h
    cases hg
    exact ⟨hw, okS_cons trivial hst.tl.tl, hls, Nat.le_refl _, Nat.le_refl _⟩

set_option maxHeartbeats 4000000 in
theorem w_lor (hsc : sc.1 ≤ 65536 ∧ ∀ j, inR (sc.2 j)) (hw : AMwf I L R K) (hst : okS K.2.2.1 st) (hls : okL K.2.2.1 ls) (h : stepL sc mi (.lor) n pc ls st I L R K = some g) : WFc K.2.2.1 K.2.2.2 g := by
  simp only [stepL, stQ] at h
  split at h
  case h_2 => cases h
  case h_1 y x r =>
    obtain ⟨v, hv, hg⟩ := Option.map_eq_some_iff.mp h
    cases hg
    exact ⟨hw, okS_cons trivial hst.tl.tl, hls, Nat.le_refl _, Nat.le_refl _⟩

set_option maxHeartbeats 4000000 in
theorem w_goto {off : Int} (hsc : sc.1 ≤ 65536 ∧ ∀ j, inR (sc.2 j)) (hw : AMwf I L R K) (hst : okS K.2.2.1 st) (hls : okL K.2.2.1 ls) (h : stepL sc mi (.goto off) n pc ls st I L R K = some g) : WFc K.2.2.1 K.2.2.2 g := by
  simp only [stepL] at h
  obtain ⟨t, ht, hg⟩ := Option.map_eq_some_iff.mp h
  cases hg
  exact ⟨hw, hst, hls, Nat.le_refl _, Nat.le_refl _⟩

set_option maxHeartbeats 4000000 in
theorem w_ifCond {k : Jvm.ClassFile.Cond} {off : Int} (hsc : sc.1 ≤ 65536 ∧ ∀ j, inR (sc.2 j)) (hw : AMwf I L R K) (hst : okS K.2.2.1 st) (hls : okL K.2.2.1 ls) (h : stepL sc mi (.ifCond k off) n pc ls st I L R K = some g) : WFc K.2.2.1 K.2.2.2 g := by
  simp only [stepL] at h
  split at h
  case h_2 => cases h
  case h_1 x r =>
    split at h
    case h_2 => cases h
    case h_1 t ht =>
      split at h
      case isTrue =>
        cases h
        exact ⟨hw, hst.tl, hls, Nat.le_refl _, Nat.le_refl _⟩
      case isFalse =>
        cases h
        exact ⟨hw, hst.tl, hls, Nat.le_refl _, Nat.le_refl _⟩

set_option maxHeartbeats 4000000 in
theorem w_if_icmp {k : Jvm.ClassFile.Cond} {off : Int} (hsc : sc.1 ≤ 65536 ∧ ∀ j, inR (sc.2 j)) (hw : AMwf I L R K) (hst : okS K.2.2.1 st) (hls : okL K.2.2.1 ls) (h : stepL sc mi (.if_icmp k off) n pc ls st I L R K = some g) : WFc K.2.2.1 K.2.2.2 g := by
  simp only [stepL] at h
  split at h
  case h_2 => cases h
  case h_1 y x r =>
    split at h
    case h_2 => cases h
    case h_1 t ht =>
      split at h
      case isTrue =>
        cases h
        exact ⟨hw, hst.tl.tl, hls, Nat.le_refl _, Nat.le_refl _⟩
      case isFalse =>
        cases h
        exact ⟨hw, hst.tl.tl, hls, Nat.le_refl _, Nat.le_refl _⟩

set_option maxHeartbeats 4000000 in
theorem w_tableswitch {d lo hi : Int} {offs : Array Int} (hsc : sc.1 ≤ 65536 ∧ ∀ j, inR (sc.2 j)) (hw : AMwf I L R K) (hst : okS K.2.2.1 st) (hls : okL K.2.2.1 ls) (h : stepL sc mi (.tableswitch d lo hi offs) n pc ls st I L R K = some g) : WFc K.2.2.1 K.2.2.2 g := by
  simp only [stepL] at h
  split at h
  case h_2 => cases h
  case h_1 x r =>
    split at h
    case isTrue ho =>
      obtain ⟨t, ht, hg⟩ := Option.map_eq_some_iff.mp h
      cases hg
      exact ⟨hw, hst.tl, hls, Nat.le_refl _, Nat.le_refl _⟩
    case isFalse ho =>
      split at h
      case h_2 => cases h
      case h_1 off hof =>
        obtain ⟨t, ht, hg⟩ := Option.map_eq_some_iff.mp h
        cases hg
        exact ⟨hw, hst.tl, hls, Nat.le_refl _, Nat.le_refl _⟩

set_option maxHeartbeats 4000000 in
theorem w_lookupswitch {d : Int} {ps : Array (Int × Int)} (hsc : sc.1 ≤ 65536 ∧ ∀ j, inR (sc.2 j)) (hw : AMwf I L R K) (hst : okS K.2.2.1 st) (hls : okL K.2.2.1 ls) (h : stepL sc mi (.lookupswitch d ps) n pc ls st I L R K = some g) : WFc K.2.2.1 K.2.2.2 g := by
  simp only [stepL] at h
  split at h
  case h_2 => cases h
  case h_1 x r =>
    split at h
    case isFalse => cases h
    case isTrue hp =>
      obtain ⟨t, ht, hg⟩ := Option.map_eq_some_iff.mp h
      cases hg
      exact ⟨hw, hst.tl, hls, Nat.le_refl _, Nat.le_refl _⟩

set_option maxHeartbeats 4000000 in
theorem w_getfield {k : Nat} (hsc : sc.1 ≤ 65536 ∧ ∀ j, inR (sc.2 j)) (hw : AMwf I L R K) (hst : okS K.2.2.1 st) (hls : okL K.2.2.1 ls) (h : stepL sc mi (.getfield k) n pc ls st I L R K = some g) : WFc K.2.2.1 K.2.2.2 g := by
  simp only [stepL] at h
  split at h
  case h_2 => cases h
  case h_1 a r =>
    split at h
    case h_2 => cases h
    case h_1 ci f nest hf =>
      split at h
      case isFalse => cases h
      case isTrue hk =>
        split at h
        case h_1 h0 =>
          cases h
          exact ⟨hw, okS_cons (hw.1 _ _) hst.tl, hls, Nat.le_refl _, Nat.le_refl _⟩
        case h_2 h0 =>
          cases h
          exact ⟨hw, okS_cons (hw.1 _ _) hst.tl, hls, Nat.le_refl _, Nat.le_refl _⟩
        case h_3 h0 =>
          cases h
          exact ⟨hw, okS_cons (okR hw) hst.tl, hls, Nat.le_refl _, Nat.le_refl _⟩
        case h_4 => cases h

set_option maxHeartbeats 4000000 in
theorem w_putfield {k : Nat} (hsc : sc.1 ≤ 65536 ∧ ∀ j, inR (sc.2 j)) (hw : AMwf I L R K) (hst : okS K.2.2.1 st) (hls : okL K.2.2.1 ls) (h : stepL sc mi (.putfield k) n pc ls st I L R K = some g) : WFc K.2.2.1 K.2.2.2 g := by
  simp only [stepL] at h
  split at h
  case h_2 => cases h
  case h_1 v a r =>
    have ha : a < K.2.2.1 := hst.tl.hd
    split at h
    case h_2 => cases h
    case h_1 ci f nest hf =>
      split at h
      case isFalse => cases h
      case isTrue hk =>
        split at h
        case h_1 x h0 =>
          cases h
          exact ⟨hw.setI hst.hd ha, hst.tl.tl, hls, Nat.le_refl _, Nat.le_refl _⟩
        case h_2 x h0 =>
          split at h
          case isFalse => cases h
          case isTrue h01 =>
            cases h
            exact ⟨hw.setI hst.hd ha, hst.tl.tl, hls, Nat.le_refl _, Nat.le_refl _⟩
        case h_3 x h0 =>
          cases h
          exact ⟨hw.setR (fun r hr => by subst hr; exact hst.hd) ha, hst.tl.tl, hls, Nat.le_refl _, Nat.le_refl _⟩
        case h_4 => cases h

set_option maxHeartbeats 4000000 in
theorem w_arraylength (hsc : sc.1 ≤ 65536 ∧ ∀ j, inR (sc.2 j)) (hw : AMwf I L R K) (hst : okS K.2.2.1 st) (hls : okL K.2.2.1 ls) (h : stepL sc mi (.arraylength) n pc ls st I L R K = some g) : WFc K.2.2.1 K.2.2.2 g := by
  simp only [stepL] at h
  split at h
  case h_3 => cases h
  case h_1 a r =>
    split at h
    case isFalse => cases h
    case isTrue hk =>
      cases h
      exact ⟨hw, okS_cons (inR_nat (by omega) (by have := hw.2.2.2.2 a; omega)) hst.tl, hls, Nat.le_refl _, Nat.le_refl _⟩
  case h_2 r =>
    cases h
    exact ⟨hw, okS_cons (inR_nat (by omega) (by have := hsc.1; omega)) hst.tl, hls, Nat.le_refl _, Nat.le_refl _⟩

set_option maxHeartbeats 4000000 in
theorem w_iaload (hsc : sc.1 ≤ 65536 ∧ ∀ j, inR (sc.2 j)) (hw : AMwf I L R K) (hst : okS K.2.2.1 st) (hls : okL K.2.2.1 ls) (h : stepL sc mi (.iaload) n pc ls st I L R K = some g) : WFc K.2.2.1 K.2.2.2 g := by
  simp only [stepL] at h
  split at h
  case h_3 => cases h
  case h_1 i a r =>
    split at h
    case isFalse => cases h
    case isTrue hc =>
      cases h
      exact ⟨hw, okS_cons (hw.1 _ _) hst.tl.tl, hls, Nat.le_refl _, Nat.le_refl _⟩
  case h_2 i r =>
    split at h
    case isFalse => cases h
    case isTrue hc =>
      cases h
      exact ⟨hw, okS_cons (hsc.2 _) hst.tl.tl, hls, Nat.le_refl _, Nat.le_refl _⟩

set_option maxHeartbeats 4000000 in
theorem w_baload (hsc : sc.1 ≤ 65536 ∧ ∀ j, inR (sc.2 j)) (hw : AMwf I L R K) (hst : okS K.2.2.1 st) (hls : okL K.2.2.1 ls) (h : stepL sc mi (.baload) n pc ls st I L R K = some g) : WFc K.2.2.1 K.2.2.2 g := by
  simp only [stepL] at h
  split at h
  case h_2 => cases h
  case h_1 i a r =>
    split at h
    case isFalse => cases h
    case isTrue hc =>
      cases h
      exact ⟨hw, okS_cons (hw.1 _ _) hst.tl.tl, hls, Nat.le_refl _, Nat.le_refl _⟩

set_option maxHeartbeats 4000000 in
theorem w_laload (hsc : sc.1 ≤ 65536 ∧ ∀ j, inR (sc.2 j)) (hw : AMwf I L R K) (hst : okS K.2.2.1 st) (hls : okL K.2.2.1 ls) (h : stepL sc mi (.laload) n pc ls st I L R K = some g) : WFc K.2.2.1 K.2.2.2 g := by
  simp only [stepL] at h
  split at h
  case h_2 => cases h
  case h_1 i a r =>
    split at h
    case isFalse => cases h
    case isTrue hc =>
      cases h
      exact ⟨hw, okS_cons trivial hst.tl.tl, hls, Nat.le_refl _, Nat.le_refl _⟩

set_option maxHeartbeats 4000000 in
theorem w_aaload (hsc : sc.1 ≤ 65536 ∧ ∀ j, inR (sc.2 j)) (hw : AMwf I L R K) (hst : okS K.2.2.1 st) (hls : okL K.2.2.1 ls) (h : stepL sc mi (.aaload) n pc ls st I L R K = some g) : WFc K.2.2.1 K.2.2.2 g := by
  simp only [stepL] at h
  split at h
  case h_2 => cases h
  case h_1 i a r =>
    split at h
    case isFalse => cases h
    case isTrue hc =>
      cases h
      exact ⟨hw, okS_cons (okR hw) hst.tl.tl, hls, Nat.le_refl _, Nat.le_refl _⟩

set_option maxHeartbeats 4000000 in
theorem w_iastore (hsc : sc.1 ≤ 65536 ∧ ∀ j, inR (sc.2 j)) (hw : AMwf I L R K) (hst : okS K.2.2.1 st) (hls : okL K.2.2.1 ls) (h : stepL sc mi (.iastore) n pc ls st I L R K = some g) : WFc K.2.2.1 K.2.2.2 g := by
  simp only [stepL] at h
  split at h
  case h_2 => cases h
  case h_1 x i a r =>
    split at h
    case isFalse => cases h
    case isTrue hc =>
      cases h
      exact ⟨hw.setI hst.hd hst.tl.tl.hd, hst.tl.tl.tl, hls, Nat.le_refl _, Nat.le_refl _⟩

set_option maxHeartbeats 4000000 in
theorem w_bastore (hsc : sc.1 ≤ 65536 ∧ ∀ j, inR (sc.2 j)) (hw : AMwf I L R K) (hst : okS K.2.2.1 st) (hls : okL K.2.2.1 ls) (h : stepL sc mi (.bastore) n pc ls st I L R K = some g) : WFc K.2.2.1 K.2.2.2 g := by
  simp only [stepL] at h
  split at h
  case h_2 => cases h
  case h_1 x i a r =>
    split at h
    case isFalse => cases h
    case isTrue hc =>
      cases h
      exact ⟨hw.setI hst.hd hst.tl.tl.hd, hst.tl.tl.tl, hls, Nat.le_refl _, Nat.le_refl _⟩

set_option maxHeartbeats 4000000 in
theorem w_lastore (hsc : sc.1 ≤ 65536 ∧ ∀ j, inR (sc.2 j)) (hw : AMwf I L R K) (hst : okS K.2.2.1 st) (hls : okL K.2.2.1 ls) (h : stepL sc mi (.lastore) n pc ls st I L R K = some g) : WFc K.2.2.1 K.2.2.2 g := by
  simp only [stepL] at h
  split at h
  case h_2 => cases h
  case h_1 x i a r =>
    split at h
    case isFalse => cases h
    case isTrue hc =>
      cases h
      exact ⟨hw.setL hst.tl.tl.hd, hst.tl.tl.tl, hls, Nat.le_refl _, Nat.le_refl _⟩

set_option maxHeartbeats 4000000 in
theorem w_aastore (hsc : sc.1 ≤ 65536 ∧ ∀ j, inR (sc.2 j)) (hw : AMwf I L R K) (hst : okS K.2.2.1 st) (hls : okL K.2.2.1 ls) (h : stepL sc mi (.aastore) n pc ls st I L R K = some g) : WFc K.2.2.1 K.2.2.2 g := by
  simp only [stepL] at h
  split at h
  case h_2 => cases h
  case h_1 x i a r =>
    split at h
    case isFalse => cases h
    case isTrue hc =>
      cases h
      exact ⟨hw.setR (fun r hr => by cases hr; exact hst.hd) hst.tl.tl.hd, hst.tl.tl.tl, hls, Nat.le_refl _, Nat.le_refl _⟩

set_option maxHeartbeats 4000000 in
theorem w_newarray {t : ArrayType} (hsc : sc.1 ≤ 65536 ∧ ∀ j, inR (sc.2 j)) (hw : AMwf I L R K) (hst : okS K.2.2.1 st) (hls : okL K.2.2.1 ls) (h : stepL sc mi (.newarray t) n pc ls st I L R K = some g) : WFc K.2.2.1 K.2.2.2 g := by
  simp only [stepL] at h
  split at h
  case h_2 => cases h
  case h_1 z r =>
    split at h
    case h_2 => cases h
    case h_1 kind hkind =>
      split at h
      case isFalse => cases h
      case isTrue hz =>
        cases h
        exact ⟨hw.alloc (by omega), okS_cons (Nat.lt_succ_self _) (hst.tl.mono (Nat.le_succ _)), hls.mono (Nat.le_succ _), Nat.le_succ _, Nat.le_add_right _ _⟩

set_option maxHeartbeats 4000000 in
theorem w_anewarray {k : Nat} (hsc : sc.1 ≤ 65536 ∧ ∀ j, inR (sc.2 j)) (hw : AMwf I L R K) (hst : okS K.2.2.1 st) (hls : okL K.2.2.1 ls) (h : stepL sc mi (.anewarray k) n pc ls st I L R K = some g) : WFc K.2.2.1 K.2.2.2 g := by
  simp only [stepL] at h
  split at h
  case h_2 => cases h
  case h_1 z r =>
    split at h
    case h_2 => cases h
    case h_1 kind hkind =>
      split at h
      case isFalse => cases h
      case isTrue hz =>
        cases h
        exact ⟨hw.alloc (by omega), okS_cons (Nat.lt_succ_self _) (hst.tl.mono (Nat.le_succ _)), hls.mono (Nat.le_succ _), Nat.le_succ _, Nat.le_add_right _ _⟩

set_option maxHeartbeats 4000000 in
theorem w_multianewarray {k d : Nat} (hsc : sc.1 ≤ 65536 ∧ ∀ j, inR (sc.2 j)) (hw : AMwf I L R K) (hst : okS K.2.2.1 st) (hls : okL K.2.2.1 ls) (h : stepL sc mi (.multianewarray k d) n pc ls st I L R K = some g) : WFc K.2.2.1 K.2.2.2 g := by
  simp only [stepL] at h
  split at h
  case h_2 => cases h
  case h_1 z y r =>
    split at h
    case h_2 => cases h
    case h_1 kind hkind =>
      split at h
      case isFalse => cases h
      case isTrue hz =>
        cases h
        have hle : K.2.2.1 ≤ K.2.2.1 + 1 + y.toNat := by omega
        exact ⟨hw.alloc2 (by omega) (by omega), okS_cons (show K.2.2.1 < K.2.2.1 + 1 + y.toNat by omega) (hst.tl.tl.mono hle), hls.mono hle, hle, show K.2.2.2 ≤ K.2.2.2 + y.toNat + y.toNat * z.toNat by omega⟩

set_option maxHeartbeats 4000000 in
theorem w_new {k : Nat} (hsc : sc.1 ≤ 65536 ∧ ∀ j, inR (sc.2 j)) (hw : AMwf I L R K) (hst : okS K.2.2.1 st) (hls : okL K.2.2.1 ls) (h : stepL sc mi (.new k) n pc ls st I L R K = some g) : WFc K.2.2.1 K.2.2.2 g := by
  simp only [stepL] at h
  split at h
  case h_2 => cases h
  case h_1 ci hci =>
    cases h
    exact ⟨hw.alloc (nFld_le ci), okS_cons (Nat.lt_succ_self _) (hst.mono (Nat.le_succ _)), hls.mono (Nat.le_succ _), Nat.le_succ _, Nat.le_add_right _ _⟩

set_option maxHeartbeats 4000000 in
theorem stepL_wf {i : Instr} (hsc : sc.1 ≤ 65536 ∧ ∀ j, inR (sc.2 j)) (hw : AMwf I L R K) (hst : okS K.2.2.1 st) (hls : okL K.2.2.1 ls) (h : stepL sc mi i n pc ls st I L R K = some g) : WFc K.2.2.1 K.2.2.2 g := by
  cases i
  case iconst _ => exact w_iconst hsc hw hst hls h
  case bipush _ => exact w_bipush hsc hw hst hls h
  case sipush _ => exact w_sipush hsc hw hst hls h
  case lconst _ => exact w_lconst hsc hw hst hls h
  case ldc _ => exact w_ldc hsc hw hst hls h
  case ldc_w _ => exact w_ldc_w hsc hw hst hls h
  case ldc2_w _ => exact w_ldc2_w hsc hw hst hls h
  case iload _ => exact w_iload hsc hw hst hls h
  case iload_n _ => exact w_iload_n hsc hw hst hls h
  case lload_n _ => exact w_lload_n hsc hw hst hls h
  case aload _ => exact w_aload hsc hw hst hls h
  case aload_n _ => exact w_aload_n hsc hw hst hls h
  case istore _ => exact w_istore hsc hw hst hls h
  case istore_n _ => exact w_istore_n hsc hw hst hls h
  case astore _ => exact w_astore hsc hw hst hls h
  case astore_n _ => exact w_astore_n hsc hw hst hls h
  case lstore_n _ => exact w_lstore_n hsc hw hst hls h
  case iinc _ _ => exact w_iinc hsc hw hst hls h
  case dup => exact w_dup hsc hw hst hls h
  case dup2 => exact w_dup2 hsc hw hst hls h
  case pop => exact w_pop hsc hw hst hls h
  case i2b => exact w_i2b hsc hw hst hls h
  case i2s => exact w_i2s hsc hw hst hls h
  case l2i => exact w_l2i hsc hw hst hls h
  case lcmp => exact w_lcmp hsc hw hst hls h
  case lushr => exact w_lushr hsc hw hst hls h
  case lshl => exact w_lshl hsc hw hst hls h
  case iadd => exact w_iadd hsc hw hst hls h
  case isub => exact w_isub hsc hw hst hls h
  case imul => exact w_imul hsc hw hst hls h
  case iand => exact w_iand hsc hw hst hls h
  case ior => exact w_ior hsc hw hst hls h
  case ixor => exact w_ixor hsc hw hst hls h
  case ishl => exact w_ishl hsc hw hst hls h
  case ishr => exact w_ishr hsc hw hst hls h
  case iushr => exact w_iushr hsc hw hst hls h
  case idiv => exact w_idiv hsc hw hst hls h
  case irem => exact w_irem hsc hw hst hls h
  case ladd => exact w_ladd hsc hw hst hls h
  case lsub => exact w_lsub hsc hw hst hls h
  case land => exact w_land hsc hw hst hls h
  case lor => exact w_lor hsc hw hst hls h
  case goto _ => exact w_goto hsc hw hst hls h
  case ifCond _ _ => exact w_ifCond hsc hw hst hls h
  case if_icmp _ _ => exact w_if_icmp hsc hw hst hls h
  case tableswitch _ _ _ _ => exact w_tableswitch hsc hw hst hls h
  case lookupswitch _ _ => exact w_lookupswitch hsc hw hst hls h
  case getfield _ => exact w_getfield hsc hw hst hls h
  case putfield _ => exact w_putfield hsc hw hst hls h
  case arraylength => exact w_arraylength hsc hw hst hls h
  case iaload => exact w_iaload hsc hw hst hls h
  case baload => exact w_baload hsc hw hst hls h
  case laload => exact w_laload hsc hw hst hls h
  case aaload => exact w_aaload hsc hw hst hls h
  case iastore => exact w_iastore hsc hw hst hls h
  case bastore => exact w_bastore hsc hw hst hls h
  case lastore => exact w_lastore hsc hw hst hls h
  case aastore => exact w_aastore hsc hw hst hls h
  case newarray _ => exact w_newarray hsc hw hst hls h
  case anewarray _ => exact w_anewarray hsc hw hst hls h
  case multianewarray _ _ => exact w_multianewarray hsc hw hst hls h
  case new _ => exact w_new hsc hw hst hls h
  all_goals exact absurd (show (none : Option ACfg) = some g from h) (fun q => by cases q)
section
variable {p : Program} {l : Launch} {e : Env} {Rm : Room} {s : State} {m : MethodId} {args : Array Value} {below : List Frame} {meth : Method} {c : Code} {base : Nat} {D : va_G} {ay fx ax : Nat → Nat}
set_option maxHeartbeats 4000000 in
/-- EVERY STEP IS THE MACHINE'S -/
theorem stepL_sound {i : Instr} (C : Ctx sc base D ay fx ax mi p Rm s m meth c) (hd : decode (mBytes mi) pc = .ok (i, n)) (hn : insLen i n = true) (hw : AMwf I L R K) (hst : okS K.2.2.1 st) (hls : okL K.2.2.1 ls) (h : stepL sc mi i n pc ls st I L R K = some g) : StepS p l e Rm s m args below meth c base D ay fx (mMaxL mi) pc ls st I L R K g := by
  cases i
  case iconst _ => exact s_iconst C hd hn hw hst hls h
  case bipush _ => exact s_bipush C hd hn hw hst hls h
  case sipush _ => exact s_sipush C hd hn hw hst hls h
  case lconst _ => exact s_lconst C hd hn hw hst hls h
  case ldc _ => exact s_ldc C hd hn hw hst hls h
  case ldc_w _ => exact s_ldc_w C hd hn hw hst hls h
  case ldc2_w _ => exact s_ldc2_w C hd hn hw hst hls h
  case iload _ => exact s_iload C hd hn hw hst hls h
  case iload_n _ => exact s_iload_n C hd hn hw hst hls h
  case lload_n _ => exact s_lload_n C hd hn hw hst hls h
  case aload _ => exact s_aload C hd hn hw hst hls h
  case aload_n _ => exact s_aload_n C hd hn hw hst hls h
  case istore _ => exact s_istore C hd hn hw hst hls h
  case istore_n _ => exact s_istore_n C hd hn hw hst hls h
  case astore _ => exact s_astore C hd hn hw hst hls h
  case astore_n _ => exact s_astore_n C hd hn hw hst hls h
  case lstore_n _ => exact s_lstore_n C hd hn hw hst hls h
  case iinc _ _ => exact s_iinc C hd hn hw hst hls h
  case dup => exact s_dup C hd hn hw hst hls h
  case dup2 => exact s_dup2 C hd hn hw hst hls h
  case pop => exact s_pop C hd hn hw hst hls h
  case i2b => exact s_i2b C hd hn hw hst hls h
  case i2s => exact s_i2s C hd hn hw hst hls h
  case l2i => exact s_l2i C hd hn hw hst hls h
  case lcmp => exact s_lcmp C hd hn hw hst hls h
  case lushr => exact s_lushr C hd hn hw hst hls h
  case lshl => exact s_lshl C hd hn hw hst hls h
  case iadd => exact s_iadd C hd hn hw hst hls h
  case isub => exact s_isub C hd hn hw hst hls h
  case imul => exact s_imul C hd hn hw hst hls h
  case iand => exact s_iand C hd hn hw hst hls h
  case ior => exact s_ior C hd hn hw hst hls h
  case ixor => exact s_ixor C hd hn hw hst hls h
  case ishl => exact s_ishl C hd hn hw hst hls h
  case ishr => exact s_ishr C hd hn hw hst hls h
  case iushr => exact s_iushr C hd hn hw hst hls h
  case idiv => exact s_idiv C hd hn hw hst hls h
  case irem => exact s_irem C hd hn hw hst hls h
  case ladd => exact s_ladd C hd hn hw hst hls h
  case lsub => exact s_lsub C hd hn hw hst hls h
  case land => exact s_land C hd hn hw hst hls h
  case lor => exact s_lor C hd hn hw hst hls h
  case goto _ => exact s_goto C hd hn hw hst hls h
  case ifCond _ _ => exact s_ifCond C hd hn hw hst hls h
  case if_icmp _ _ => exact s_if_icmp C hd hn hw hst hls h
  case tableswitch _ _ _ _ => exact s_tableswitch C hd hn hw hst hls h
  case lookupswitch _ _ => exact s_lookupswitch C hd hn hw hst hls h
  case getfield _ => exact s_getfield C hd hn hw hst hls h
  case putfield _ => exact s_putfield C hd hn hw hst hls h
  case arraylength => exact s_arraylength C hd hn hw hst hls h
  case iaload => exact s_iaload C hd hn hw hst hls h
  case baload => exact s_baload C hd hn hw hst hls h
  case laload => exact s_laload C hd hn hw hst hls h
  case aaload => exact s_aaload C hd hn hw hst hls h
  case iastore => exact s_iastore C hd hn hw hst hls h
  case bastore => exact s_bastore C hd hn hw hst hls h
  case lastore => exact s_lastore C hd hn hw hst hls h
  case aastore => exact s_aastore C hd hn hw hst hls h
  case newarray _ => exact s_newarray C hd hn hw hst hls h
  case anewarray _ => exact s_anewarray C hd hn hw hst hls h
  case multianewarray _ _ => exact s_multianewarray C hd hn hw hst hls h
  case new _ => exact s_new C hd hn hw hst hls h
  all_goals exact absurd (show (none : Option ACfg) = some g from h) (fun q => by cases q)
end
end
