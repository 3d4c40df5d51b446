theorem mi_Lmax (x : Int64) : x.toInt ≤ 9223372036854775807 := by have := Int64.toInt_lt x; omega
theorem mi_Ldiv {a b : Int64} (ha : 0 ≤ a.toInt) (hb : 0 < b.toInt) : (a / b).toInt = a.toInt / b.toInt := by
  have hm := mi_Lmax a
  rw [Int64.toInt_div]
  rw [Int.tdiv_eq_ediv_of_nonneg ha]
  have h1 : a.toInt / b.toInt ≤ a.toInt := Int.ediv_le_self _ ha
  have h2 : 0 ≤ a.toInt / b.toInt := Int.ediv_nonneg ha (by omega)
  exact Int.bmod_eq_of_le (by omega) (by omega)
theorem su_mono {b : Nat → Bool} {p : Nat → Int} {m : Nat} : ∀ (n : Nat), m ≤ n → (∀ z, z < n → 0 ≤ p z) → su b p m ≤ su b p n
  | 0, h, _ => by rw [show m = 0 by omega]; exact Int.le_refl _
  | n + 1, h, hp => by
    by_cases e : m = n + 1
    · rw [e]; exact Int.le_refl _
    · have h1 := su_mono (b := b) n (show m ≤ n by omega) (fun z hz => hp z (by omega))
      have h2 := hp n (by omega)
      have h3 : su b p (n + 1) = su b p n + (bif b n then p n else 0) := rfl
      rw [h3]
      cases b n <;> simp only [cond_true, cond_false] <;> omega
/-- a step of the sharing out: the product, its share, what is left over -/
theorem sh_step {N A p q S E c : Int} (hA : 0 < A) (hN : 0 ≤ N) (hp : 0 ≤ p) (hpA : p ≤ A) (hq : q = N * p / A) (h0 : E ≤ N * S) (h1 : N * S - E ≤ (A - 1) * c) : 0 ≤ q ∧ q ≤ N ∧ E + A * q ≤ N * (S + p) ∧ N * (S + p) - (E + A * q) ≤ (A - 1) * (c + 1) := by
  have e1 : N * (S + p) = N * S + N * p := Int.mul_add N S p
  have e2 : (A - 1) * (c + 1) = (A - 1) * c + (A - 1) := by rw [Int.mul_add, Int.mul_one]
  have e3 : N * p % A + A * (N * p / A) = N * p := Int.emod_add_mul_ediv (N * p) A
  have e4 := Int.emod_nonneg (N * p) (show A ≠ 0 by omega)
  have e5 := Int.emod_lt_of_pos (N * p) hA
  have e6 : 0 ≤ N * p := Int.mul_nonneg hN hp
  have e7 : N * p ≤ N * A := Int.mul_le_mul_of_nonneg_left hpA hN
  rw [← hq] at e3
  refine ⟨?_, ?_, by omega, by omega⟩
  · rw [hq]; exact Int.ediv_nonneg e6 (by omega)
  · rw [hq]
    have := Int.ediv_le_ediv hA e7
    rw [Int.mul_ediv_cancel N (by omega)] at this
    exact this
theorem sh_end {N A l c : Int} (hA : 0 < A) (h1 : N * A - A * (N - l) ≤ (A - 1) * c) (hc : 0 ≤ c) : l ≤ c := by
  have e1 : A * (N - l) = A * N - A * l := Int.mul_sub A N l
  have e2 : (A - 1) * c = A * c - c := by rw [Int.sub_mul, Int.one_mul]
  have e3 : N * A = A * N := Int.mul_comm N A
  by_cases h : l ≤ c
  · exact h
  · have h2 : A * (c + 1) ≤ A * l := Int.mul_le_mul_of_nonneg_left (by omega) (by omega)
    have e4 : A * (c + 1) = A * c + A := by rw [Int.mul_add, Int.mul_one]
    omega
