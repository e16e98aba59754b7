/-! loops -/
theorem loop_up {C : Nat → Prop} (n : Nat) (hs : ∀ i, i < n → C (i + 1) → C i) (he : C n) : C 0 := by
  have key : ∀ d, d ≤ n → C (n - d) := by
    intro d
    induction d with
    | zero => intro _; exact he
    | succ d ih =>
      intro hd
      have h1 := ih (by omega)
      have e : n - d = (n - (d + 1)) + 1 := by omega
      rw [e] at h1
      exact hs _ (by omega) h1
  have := key n (by omega)
  rwa [Nat.sub_self] at this
def sumTo (f : Nat → Int) : Nat → Int
  | 0 => 0
  | n + 1 => sumTo f n + f n
theorem sumTo_succ (f : Nat → Int) (n : Nat) : sumTo f (n + 1) = sumTo f n + f n := rfl
theorem sumTo_le {f : Nat → Int} {B : Int} {m : Nat} (hB : 0 ≤ B) (h : ∀ j, j < m → f j ≤ B ∧ -B ≤ f j) : ∀ n, n ≤ m → sumTo f n ≤ B * n ∧ -(B * n) ≤ sumTo f n := by
  intro n
  induction n with
  | zero => intro _; simp [sumTo]
  | succ n ih =>
    intro hn
    have h1 := ih (by omega)
    have h2 := h n (by omega)
    have e : B * ((n + 1 : Nat) : Int) = B * n + B := by rw [Int.natCast_add, Int.mul_add]; simp
    rw [sumTo_succ, e]
    omega
theorem sumTo_congr {f g : Nat → Int} : ∀ n, (∀ j, j < n → f j = g j) → sumTo f n = sumTo g n := by
  intro n
  induction n with
  | zero => intro _; rfl
  | succ n ih => intro h; rw [sumTo_succ, sumTo_succ, ih (fun j hj => h j (by omega)), h n (by omega)]
theorem nat_of_int {x : Int} (h : 0 ≤ x) : ∃ n : Nat, x = (n : Int) := ⟨x.toNat, by omega⟩
