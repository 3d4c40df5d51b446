def ct (P : Nat → Bool) : Nat → Nat
  | 0 => 0
  | n + 1 => ct P n + (bif P n then 1 else 0)
theorem ct_ex {P : Nat → Bool} : ∀ (n : Nat), 0 < ct P n → ∃ z, z < n ∧ P z = true
  | 0, h => absurd h (by decide +revert)
  | n + 1, h => by
    cases hP : P n with
    | true => exact ⟨n, by omega, hP⟩
    | false =>
      unfold ct at h
      rw [hP] at h
      obtain ⟨z, z1, z2⟩ := ct_ex n h
      exact ⟨z, by omega, z2⟩
theorem ct_eq {P R : Nat → Bool} : ∀ (n : Nat), (∀ z, z < n → P z = R z) → ct P n = ct R n
  | 0, _ => rfl
  | n + 1, h => by unfold ct; rw [ct_eq n (fun z hz => h z (by omega)), h n (by omega)]
theorem ct_off {P R : Nat → Bool} {b : Nat} (hb : P b = true) (hR : R b = false) (he : ∀ z, z ≠ b → R z = P z) : ∀ (n : Nat), b < n → ct R n + 1 = ct P n
  | 0, h => absurd h (by omega)
  | n + 1, h => by
    unfold ct
    by_cases e : b = n
    · subst e
      rw [hb, hR, ct_eq (P := R) (R := P) b (fun z hz => he z (by omega))]
      rfl
    · have h1 := ct_off hb hR he n (by omega)
      rw [he n (fun z => e z.symm)]
      omega
def su (b : Nat → Bool) (p : Nat → Int) : Nat → Int
  | 0 => 0
  | n + 1 => su b p n + (bif b n then p n else 0)
theorem su_nn {b : Nat → Bool} {p : Nat → Int} : ∀ (n : Nat), (∀ z, z < n → 0 ≤ p z) → 0 ≤ su b p n
  | 0, _ => by unfold su; omega
  | n + 1, h => by
    unfold su
    have h1 := su_nn n (fun z hz => h z (by omega))
    have h2 := h n (by omega)
    cases b n <;> simp only [cond_true, cond_false] <;> omega
theorem su_le {b : Nat → Bool} {p : Nat → Int} {M : Int} (hM : 0 ≤ M) : ∀ (n : Nat), (∀ z, z < n → p z ≤ M) → su b p n ≤ M * n
  | 0, _ => by unfold su; simp
  | n + 1, h => by
    unfold su
    have h1 := su_le hM n (fun z hz => h z (by omega))
    have h2 := h n (by omega)
    have h3 : M * ((n + 1 : Nat) : Int) = M * n + M := by rw [Int.natCast_add, Int.mul_add]; simp
    cases b n <;> simp only [cond_true, cond_false] <;> omega
/-- the bit of some works in an int -/
def bi (s : Int32) (z : Nat) : Bool := decide ((s >>> (nI z &&& 31)) &&& 1 = 1)
theorem mi_nI {x : Int32} (h : 0 ≤ x.toInt) : nI x.toNatClampNeg = x := by
  obtain ⟨j, hj, rfl⟩ := nI_of (x := x) (by simp only [mi_lt]; have := mi_l; omega)
  rw [nI_clamp hj]
theorem bi_t {s x : Int32} (h : 0 ≤ x.toInt) (q : (s >>> (x &&& 31)) &&& 1 = 1) : bi s x.toNatClampNeg = true := by
  unfold bi
  rw [mi_nI h]
  exact decide_eq_true q
theorem bi_f {s x : Int32} (h : 0 ≤ x.toInt) (q : ¬ (s >>> (x &&& 31)) &&& 1 = 1) : bi s x.toNatClampNeg = false := by
  unfold bi
  rw [mi_nI h]
  exact decide_eq_false q
