/-! walks (by program) -/
theorem w_233_0 {sc : Nat × (Nat → Int)} {I : IH} {L : LH} {R : RH} {K : KH} {Q : AQ} {a0 : Int} (hL : Lay R K) (h : (((0 : Int) ≤ a0 ∧ a0 < (80 : Int)) ∧ (R 3 a0.toNat = some (rf R 3 a0.toNat))) ∧ Q (some (aR (some (rf R 3 a0.toNat)))) I L R K) : E sc 233 0 [some (aR (some 2)), some (aI a0)] [] I L R K Q :=
  e_aload_n mb_233 dX5_at_0 rfl (e_getr mb_233 dX5_at_1 mf_233.1 fs_20493 fk_5_0 (lk_2 hL) (lr_2_0 hL) (e_iload_n mb_233 dX5_at_4 rfl (e_aaload mb_233 dX5_at_5 (by rw [lk_3 hL]; decide) (ll_3 hL) h.1.1 h.1.2 (e_areturn mb_233 dX5_at_6 ra_233 h.2))))
