/-! E's rows: cells -/
section
variable {sc : Nat × (Nat → Int)} {mi pc : Nat} {ls : ALs} {st : List AV} {I : IH} {L : LH} {R : RH} {K : KH} {Q : AQ} {b : ByteArray} {x i : Int} {a c k ci idx : Nat} {nest : Bool}
theorem e_getfield (hb : mBytes mi = b) (hd : decode b pc = .ok (.getfield idx, 3)) (hs : fSite (mOwn mi) idx = some (ci, k, nest)) (hf : fKind ci k = 0 ∨ fKind ci k = 1) (hk : K.1 a = ci) (h : E sc mi (pc + 3) ls (aI (I a k) :: st) I L R K Q) : E sc mi pc ls (aR (some a) :: st) I L R K Q := by
  refine e_st (g := (pc + 3, ls, aI (I a k) :: st, I, L, R, K)) hb hd rfl rfl ?_ h
  rcases hf with hf | hf <;> simp only [stepL, hs, if_pos hk, hf]
theorem e_getref (hb : mBytes mi = b) (hd : decode b pc = .ok (.getfield idx, 3)) (hs : fSite (mOwn mi) idx = some (ci, k, nest)) (hf : fKind ci k = 2) (hk : K.1 a = ci) (hr : R a k = some c) (h : E sc mi (pc + 3) ls (aR (some c) :: st) I L R K Q) : E sc mi pc ls (aR (some a) :: st) I L R K Q := by
  refine e_st (g := (pc + 3, ls, aR (some c) :: st, I, L, R, K)) hb hd rfl rfl ?_ h
  simp only [stepL, hs, if_pos hk, hf, hr]
theorem e_putint (hb : mBytes mi = b) (hd : decode b pc = .ok (.putfield idx, 3)) (hs : fSite (mOwn mi) idx = some (ci, k, nest)) (hf : fKind ci k = 0) (hp : fFin ci k = false ∨ (mOwn mi = ci ∧ nest = false ∧ (mName mi).name = "<init>")) (hk : K.1 a = ci) (h : E sc mi (pc + 3) ls st (setF I a k x) L R K Q) : E sc mi pc ls (aI x :: aR (some a) :: st) I L R K Q := by
  refine e_st (g := (pc + 3, ls, st, setF I a k x, L, R, K)) hb hd rfl rfl ?_ h
  simp only [stepL, hs, if_pos (And.intro hk hp), hf]
theorem e_putbool (hb : mBytes mi = b) (hd : decode b pc = .ok (.putfield idx, 3)) (hs : fSite (mOwn mi) idx = some (ci, k, nest)) (hf : fKind ci k = 1) (hp : fFin ci k = false ∨ (mOwn mi = ci ∧ nest = false ∧ (mName mi).name = "<init>")) (hk : K.1 a = ci) (hx : x = 0 ∨ x = 1) (h : E sc mi (pc + 3) ls st (setF I a k x) L R K Q) : E sc mi pc ls (aI x :: aR (some a) :: st) I L R K Q := by
  refine e_st (g := (pc + 3, ls, st, setF I a k x, L, R, K)) hb hd rfl rfl ?_ h
  simp only [stepL, hs, if_pos (And.intro hk hp), hf, if_pos hx]
theorem e_putref (hb : mBytes mi = b) (hd : decode b pc = .ok (.putfield idx, 3)) (hs : fSite (mOwn mi) idx = some (ci, k, nest)) (hf : fKind ci k = 2) (hp : fFin ci k = false ∨ (mOwn mi = ci ∧ nest = false ∧ (mName mi).name = "<init>")) (hk : K.1 a = ci) (h : E sc mi (pc + 3) ls st I L (setF R a k (some c)) K Q) : E sc mi pc ls (aR (some c) :: aR (some a) :: st) I L R K Q := by
  refine e_st (g := (pc + 3, ls, st, I, L, setF R a k (some c), K)) hb hd rfl rfl ?_ h
  simp only [stepL, hs, if_pos (And.intro hk hp), hf]
theorem e_len {n : Nat} (hb : mBytes mi = b) (hd : decode b pc = .ok (.arraylength, 1)) (hk : 100 ≤ K.1 a ∧ K.1 a ≤ 105) (hn : K.2.1 a = n) (h : E sc mi (pc + 1) ls (aI (n : Int) :: st) I L R K Q) : E sc mi pc ls (aR (some a) :: st) I L R K Q := by
  refine e_st (g := (pc + 1, ls, aI (K.2.1 a : Nat) :: st, I, L, R, K)) hb hd rfl rfl ?_ (by rw [hn]; exact h)
  simp only [stepL, if_pos hk]
theorem e_lenF (hb : mBytes mi = b) (hd : decode b pc = .ok (.arraylength, 1)) (h : E sc mi (pc + 1) ls (aI (sc.1 : Nat) :: st) I L R K Q) : E sc mi pc ls (aF 0 :: st) I L R K Q := e_st hb hd rfl rfl rfl h
theorem inRow_iff {i : Int} {n : Nat} (h : 0 ≤ i ∧ i < (n : Int)) : inRow i n = true := by simp [inRow, h.1, h.2]
theorem e_iaload {n : Nat} (hb : mBytes mi = b) (hd : decode b pc = .ok (.iaload, 1)) (hk : K.1 a = 100) (hn : K.2.1 a = n) (hi : 0 ≤ i ∧ i < (n : Int)) (h : E sc mi (pc + 1) ls (aI (I a i.toNat) :: st) I L R K Q) : E sc mi pc ls (aI i :: aR (some a) :: st) I L R K Q := by
  refine e_st (g := (pc + 1, ls, aI (I a i.toNat) :: st, I, L, R, K)) hb hd rfl rfl ?_ h
  simp only [stepL, if_pos (And.intro hk (hn ▸ inRow_iff hi))]
theorem e_ialoadF (hb : mBytes mi = b) (hd : decode b pc = .ok (.iaload, 1)) (hi : 0 ≤ i ∧ i < (sc.1 : Int)) (h : E sc mi (pc + 1) ls (aI (sc.2 i.toNat) :: st) I L R K Q) : E sc mi pc ls (aI i :: aF 0 :: st) I L R K Q := by
  refine e_st (g := (pc + 1, ls, aI (sc.2 i.toNat) :: st, I, L, R, K)) hb hd rfl rfl ?_ h
  simp only [stepL, if_pos (inRow_iff hi)]
theorem e_baload {n : Nat} (hb : mBytes mi = b) (hd : decode b pc = .ok (.baload, 1)) (hk : K.1 a = 101) (hn : K.2.1 a = n) (hi : 0 ≤ i ∧ i < (n : Int)) (h : E sc mi (pc + 1) ls (aI (I a i.toNat) :: st) I L R K Q) : E sc mi pc ls (aI i :: aR (some a) :: st) I L R K Q := by
  refine e_st (g := (pc + 1, ls, aI (I a i.toNat) :: st, I, L, R, K)) hb hd rfl rfl ?_ h
  simp only [stepL, if_pos (And.intro hk (hn ▸ inRow_iff hi))]
theorem e_laload {n : Nat} (hb : mBytes mi = b) (hd : decode b pc = .ok (.laload, 1)) (hk : K.1 a = 102) (hn : K.2.1 a = n) (hi : 0 ≤ i ∧ i < (n : Int)) (h : E sc mi (pc + 1) ls (aL (L a i.toNat) :: st) I L R K Q) : E sc mi pc ls (aI i :: aR (some a) :: st) I L R K Q := by
  refine e_st (g := (pc + 1, ls, aL (L a i.toNat) :: st, I, L, R, K)) hb hd rfl rfl ?_ h
  simp only [stepL, if_pos (And.intro hk (hn ▸ inRow_iff hi))]
theorem e_aaload {n : Nat} (hb : mBytes mi = b) (hd : decode b pc = .ok (.aaload, 1)) (hk : K.1 a = 103 ∨ K.1 a = 104 ∨ K.1 a = 105) (hn : K.2.1 a = n) (hi : 0 ≤ i ∧ i < (n : Int)) (hr : R a i.toNat = some c) (h : E sc mi (pc + 1) ls (aR (some c) :: st) I L R K Q) : E sc mi pc ls (aI i :: aR (some a) :: st) I L R K Q := by
  refine e_st (g := (pc + 1, ls, aR (some c) :: st, I, L, R, K)) hb hd rfl rfl ?_ h
  simp only [stepL, if_pos (And.intro hk (hn ▸ inRow_iff hi)), hr]
theorem e_iastore {n : Nat} (hb : mBytes mi = b) (hd : decode b pc = .ok (.iastore, 1)) (hk : K.1 a = 100) (hn : K.2.1 a = n) (hi : 0 ≤ i ∧ i < (n : Int)) (h : E sc mi (pc + 1) ls st (setF I a i.toNat x) L R K Q) : E sc mi pc ls (aI x :: aI i :: aR (some a) :: st) I L R K Q := by
  refine e_st (g := (pc + 1, ls, st, setF I a i.toNat x, L, R, K)) hb hd rfl rfl ?_ h
  simp only [stepL, if_pos (And.intro hk (hn ▸ inRow_iff hi))]
theorem e_bastore {n : Nat} (hb : mBytes mi = b) (hd : decode b pc = .ok (.bastore, 1)) (hk : K.1 a = 101) (hn : K.2.1 a = n) (hi : 0 ≤ i ∧ i < (n : Int)) (hx : x = 0 ∨ x = 1) (h : E sc mi (pc + 1) ls st (setF I a i.toNat x) L R K Q) : E sc mi pc ls (aI x :: aI i :: aR (some a) :: st) I L R K Q := by
  refine e_st (g := (pc + 1, ls, st, setF I a i.toNat x, L, R, K)) hb hd rfl rfl ?_ h
  simp only [stepL, if_pos (And.intro (And.intro hk (hn ▸ inRow_iff hi)) hx)]
theorem e_lastore {n : Nat} {z : Int64} (hb : mBytes mi = b) (hd : decode b pc = .ok (.lastore, 1)) (hk : K.1 a = 102) (hn : K.2.1 a = n) (hi : 0 ≤ i ∧ i < (n : Int)) (h : E sc mi (pc + 1) ls st I (setF L a i.toNat z) R K Q) : E sc mi pc ls (aL z :: aI i :: aR (some a) :: st) I L R K Q := by
  refine e_st (g := (pc + 1, ls, st, I, setF L a i.toNat z, R, K)) hb hd rfl rfl ?_ h
  simp only [stepL, if_pos (And.intro hk (hn ▸ inRow_iff hi))]
theorem e_aastore {n : Nat} (hb : mBytes mi = b) (hd : decode b pc = .ok (.aastore, 1)) (hk : (K.1 a = 103 ∧ K.1 c = 4) ∨ (K.1 a = 104 ∧ K.1 c = 9)) (hn : K.2.1 a = n) (hi : 0 ≤ i ∧ i < (n : Int)) (h : E sc mi (pc + 1) ls st I L (setF R a i.toNat (some c)) K Q) : E sc mi pc ls (aR (some c) :: aI i :: aR (some a) :: st) I L R K Q := by
  refine e_st (g := (pc + 1, ls, st, I, L, setF R a i.toNat (some c), K)) hb hd rfl rfl ?_ h
  simp only [stepL, if_pos (And.intro hk (hn ▸ inRow_iff hi))]
theorem e_newarray {t : ArrayType} {kd : Nat} (hb : mBytes mi = b) (hd : decode b pc = .ok (.newarray t, 2)) (hk : arrKind t = some kd) (hn : 0 ≤ x ∧ x ≤ 65536) (h : E sc mi (pc + 2) ls (aR (some K.2.2.1) :: st) I L R (amAlloc K kd x.toNat) Q) : E sc mi pc ls (aI x :: st) I L R K Q := by
  refine e_st (g := (pc + 2, ls, aR (some K.2.2.1) :: st, I, L, R, amAlloc K kd x.toNat)) hb hd rfl rfl ?_ h
  simp only [stepL, hk, if_pos hn]
theorem e_anewarray {kd : Nat} (hb : mBytes mi = b) (hd : decode b pc = .ok (.anewarray idx, 3)) (hk : aSite (mOwn mi) idx = some kd) (hn : 0 ≤ x ∧ x ≤ 65536) (h : E sc mi (pc + 3) ls (aR (some K.2.2.1) :: st) I L R (amAlloc K kd x.toNat) Q) : E sc mi pc ls (aI x :: st) I L R K Q := by
  refine e_st (g := (pc + 3, ls, aR (some K.2.2.1) :: st, I, L, R, amAlloc K kd x.toNat)) hb hd rfl rfl ?_ h
  simp only [stepL, hk, if_pos hn]
theorem e_multi {u : Nat} {y : Int} (hb : mBytes mi = b) (hd : decode b pc = .ok (.multianewarray idx 2, 4)) (hk : uSite (mOwn mi) idx = some u) (hn : (0 ≤ x ∧ x ≤ 65536) ∧ (0 ≤ y ∧ y ≤ 65536)) (h : E sc mi (pc + 4) ls (aR (some K.2.2.1) :: st) I L (rows2 R K.2.2.1 x.toNat) (amAlloc2 K x.toNat y.toNat) Q) : E sc mi pc ls (aI y :: aI x :: st) I L R K Q := by
  refine e_st (g := (pc + 4, ls, aR (some K.2.2.1) :: st, I, L, rows2 R K.2.2.1 x.toNat, amAlloc2 K x.toNat y.toNat)) hb hd rfl rfl ?_ h
  simp only [stepL, hk]
  rw [if_pos ⟨hn.1, hn.2, trivial⟩]
theorem e_new (hb : mBytes mi = b) (hd : decode b pc = .ok (.new idx, 3)) (hs : nSite (mOwn mi) idx = some ci) (h : E sc mi (pc + 3) ls (aR (some K.2.2.1) :: st) I L R (amAlloc K ci (nFld ci)) Q) : E sc mi pc ls st I L R K Q := by
  refine e_st (g := (pc + 3, ls, aR (some K.2.2.1) :: st, I, L, R, amAlloc K ci (nFld ci))) hb hd rfl rfl ?_ h
  simp only [stepL, hs]
end
