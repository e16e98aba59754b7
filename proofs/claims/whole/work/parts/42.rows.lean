/-! the rows of the arrays of arrays -/
theorem row47 {R : RH} {K : KH} (hL : Lay R K) {s : Nat} (h : s < 9) : R 47 s = some (rf R 47 s) ∧ K.1 (rf R 47 s) = 100 ∧ K.2.1 (rf R 47 s) = 7 ∧ rf R 47 s = 48 + s := by
  have e : s = 0 ∨ s = 1 ∨ s = 2 ∨ s = 3 ∨ s = 4 ∨ s = 5 ∨ s = 6 ∨ s = 7 ∨ s = 8 := by omega
  rcases e with rfl | rfl | rfl | rfl | rfl | rfl | rfl | rfl | rfl
  · rw [rf_eq (lr_47_0 hL)]; exact ⟨lr_47_0 hL, lk_48 hL, ll_48 hL, rfl⟩
  · rw [rf_eq (lr_47_1 hL)]; exact ⟨lr_47_1 hL, lk_49 hL, ll_49 hL, rfl⟩
  · rw [rf_eq (lr_47_2 hL)]; exact ⟨lr_47_2 hL, lk_50 hL, ll_50 hL, rfl⟩
  · rw [rf_eq (lr_47_3 hL)]; exact ⟨lr_47_3 hL, lk_51 hL, ll_51 hL, rfl⟩
  · rw [rf_eq (lr_47_4 hL)]; exact ⟨lr_47_4 hL, lk_52 hL, ll_52 hL, rfl⟩
  · rw [rf_eq (lr_47_5 hL)]; exact ⟨lr_47_5 hL, lk_53 hL, ll_53 hL, rfl⟩
  · rw [rf_eq (lr_47_6 hL)]; exact ⟨lr_47_6 hL, lk_54 hL, ll_54 hL, rfl⟩
  · rw [rf_eq (lr_47_7 hL)]; exact ⟨lr_47_7 hL, lk_55 hL, ll_55 hL, rfl⟩
  · rw [rf_eq (lr_47_8 hL)]; exact ⟨lr_47_8 hL, lk_56 hL, ll_56 hL, rfl⟩
theorem row63 {R : RH} {K : KH} (hL : Lay R K) {s : Nat} (h : s < 3) : R 63 s = some (rf R 63 s) ∧ K.1 (rf R 63 s) = 100 ∧ K.2.1 (rf R 63 s) = 40 ∧ rf R 63 s = 64 + s := by
  have e : s = 0 ∨ s = 1 ∨ s = 2 := by omega
  rcases e with rfl | rfl | rfl
  · rw [rf_eq (lr_63_0 hL)]; exact ⟨lr_63_0 hL, lk_64 hL, ll_64 hL, rfl⟩
  · rw [rf_eq (lr_63_1 hL)]; exact ⟨lr_63_1 hL, lk_65 hL, ll_65 hL, rfl⟩
  · rw [rf_eq (lr_63_2 hL)]; exact ⟨lr_63_2 hL, lk_66 hL, ll_66 hL, rfl⟩
theorem row4 {R : RH} {K : KH} (hL : Lay R K) {s : Nat} (h : s < 7) : R 4 s = some (rf R 4 s) ∧ K.1 (rf R 4 s) = 100 ∧ K.2.1 (rf R 4 s) = 80 ∧ rf R 4 s = 5 + s := by
  have e : s = 0 ∨ s = 1 ∨ s = 2 ∨ s = 3 ∨ s = 4 ∨ s = 5 ∨ s = 6 := by omega
  rcases e with rfl | rfl | rfl | rfl | rfl | rfl | rfl
  · rw [rf_eq (lr_4_0 hL)]; exact ⟨lr_4_0 hL, lk_5 hL, ll_5 hL, rfl⟩
  · rw [rf_eq (lr_4_1 hL)]; exact ⟨lr_4_1 hL, lk_6 hL, ll_6 hL, rfl⟩
  · rw [rf_eq (lr_4_2 hL)]; exact ⟨lr_4_2 hL, lk_7 hL, ll_7 hL, rfl⟩
  · rw [rf_eq (lr_4_3 hL)]; exact ⟨lr_4_3 hL, lk_8 hL, ll_8 hL, rfl⟩
  · rw [rf_eq (lr_4_4 hL)]; exact ⟨lr_4_4 hL, lk_9 hL, ll_9 hL, rfl⟩
  · rw [rf_eq (lr_4_5 hL)]; exact ⟨lr_4_5 hL, lk_10 hL, ll_10 hL, rfl⟩
  · rw [rf_eq (lr_4_6 hL)]; exact ⟨lr_4_6 hL, lk_11 hL, ll_11 hL, rfl⟩
