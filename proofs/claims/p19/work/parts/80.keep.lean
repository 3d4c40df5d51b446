theorem SC.kp {I I' : mv_I} (h : SC I) (f : ∀ k, k ≠ 12 → k < 51 → I' k = I k) : SC I' := by
  obtain ⟨s1, s2, s3, s4, s5, s6, s7, s8, s9, s10, s11, s12⟩ := h
  refine ⟨by rw [(f 0 (by decide) (by decide))]; exact s1, by rw [(f 1 (by decide) (by decide))]; exact s2, by rw [(f 1 (by decide) (by decide))]; exact s3, by rw [(f 2 (by decide) (by decide))]; exact s4, by rw [(f 3 (by decide) (by decide))]; exact s5, by rw [(f 25 (by decide) (by decide))]; exact s6, s7.kp (congrFun (f 4 (by decide) (by decide)) 7) (f 31 (by decide) (by decide)) (f 32 (by decide) (by decide)) (f 33 (by decide) (by decide)), s8.kp (congrFun (f 4 (by decide) (by decide)) 7) (f 45 (by decide) (by decide)) (f 46 (by decide) (by decide)), by rw [(f 8 (by decide) (by decide))]; exact s9, by rw [(f 9 (by decide) (by decide))]; exact s10, by rw [(f 10 (by decide) (by decide))]; exact s11, by rw [(f 11 (by decide) (by decide))]; exact s12⟩
theorem SM.kp {I I' : mv_I} (h : SM I) (f : ∀ k, (k = 12 ∨ 51 ≤ k) → I' k = I k) : SM I' := by
  obtain ⟨t1, t2, t3, t4, t5, t6, t7, t8, t9, t10⟩ := h
  refine ⟨by rw [(f 12 (by decide))]; exact t1, by rw [(f 12 (by decide))]; exact t2, by rw [(f 12 (by decide))]; exact t3, by rw [(f 12 (by decide))]; exact t4, by rw [(f 12 (by decide))]; exact t5, by rw [(f 53 (by decide))]; exact t6, t7.kp (congrFun (f 12 (by decide)) 24) (f 67 (by decide)) (f 68 (by decide)) (f 69 (by decide)), by rw [(f 82 (by decide)), (f 83 (by decide))]; exact t8, by rw [(f 59 (by decide)), (f 60 (by decide))]; exact t9, ⟨t10.1.kp (congrFun (f 12 (by decide)) 0) (f 51 (by decide)), by rw [(f 12 (by decide))]; exact t10.2⟩⟩
theorem mg_f2.cl {S : List Nat} {T : List (Nat × Nat)} {I I' : mv_I} (h : mg_f2 S T I I') (hs : S.all (fun c => c != 12 && Nat.blt c 51) = true) (ht : T.all (fun q => q.1 != 12 && Nat.blt q.1 51) = true) : ∀ k, (k = 12 ∨ 51 ≤ k) → I' k = I k := fun k hk => funext fun j => h k j (by
  cases hq : S.elem k with
  | false => rfl
  | true =>
    have h1 := List.all_eq_true.mp hs k (List.elem_iff.mp hq)
    simp [Nat.blt] at h1
    omega) (by
  cases hq : T.elem (k, j) with
  | false => rfl
  | true =>
    have h1 := List.all_eq_true.mp ht (k, j) (List.elem_iff.mp hq)
    simp [Nat.blt] at h1
    omega)
theorem mg_f2.rl {S : List Nat} {T : List (Nat × Nat)} {I I' : mv_I} (h : mg_f2 S T I I') (hs : S.all (fun c => c == 12 || Nat.ble 51 c) = true) (ht : T.all (fun q => q.1 == 12 || Nat.ble 51 q.1) = true) : ∀ k, k ≠ 12 → k < 51 → I' k = I k := fun k hk hk2 => funext fun j => h k j (by
  cases hq : S.elem k with
  | false => rfl
  | true =>
    have h1 := List.all_eq_true.mp hs k (List.elem_iff.mp hq)
    simp at h1
    omega) (by
  cases hq : T.elem (k, j) with
  | false => rfl
  | true =>
    have h1 := List.all_eq_true.mp ht (k, j) (List.elem_iff.mp hq)
    simp at h1
    omega)
