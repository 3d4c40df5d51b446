/-! a parts' text: what is read, purely -/
def skp (f : Nat → Int32) (L : Nat) : Nat → Nat → Nat
  | 0, a => a
  | k + 1, a => if a < L ∧ f a = 32 then skp f L k (a + 1) else a
def sk (f : Nat → Int32) (L a : Nat) : Nat := skp f L (L - a) a
theorem sk_go {f : Nat → Int32} {L a : Nat} (h : a < L) (h2 : f a = 32) : sk f L a = sk f L (a + 1) := by
  unfold sk
  obtain ⟨k, hk⟩ : ∃ k, L - a = k + 1 := ⟨L - a - 1, by omega⟩
  rw [hk, show L - (a + 1) = k by omega]
  exact if_pos ⟨h, h2⟩
theorem sk_no {f : Nat → Int32} {L a : Nat} (h : ¬ (a < L ∧ f a = 32)) : sk f L a = a := by
  unfold sk
  cases L - a with
  | zero => rfl
  | succ k => exact if_neg h
theorem sk_all {f : Nat → Int32} {L : Nat} : ∀ (k a : Nat), L - a = k → a ≤ L → a ≤ sk f L a ∧ sk f L a ≤ L ∧ ¬ (sk f L a < L ∧ f (sk f L a) = 32) := by
  intro k
  induction k with
  | zero =>
    intro a h1 h2
    rw [sk_no (fun z => absurd z.1 (by omega))]
    exact ⟨Nat.le_refl _, h2, fun z => absurd z.1 (by omega)⟩
  | succ k ih =>
    intro a h1 h2
    by_cases h : f a = 32
    · rw [sk_go (by omega) h]
      obtain ⟨i1, i2, i3⟩ := ih (a + 1) (by omega) (by omega)
      exact ⟨by omega, i2, i3⟩
    · rw [sk_no (fun z => h z.2)]
      exact ⟨Nat.le_refl _, h2, fun z => h z.2⟩
theorem sk_ge {f : Nat → Int32} {L a : Nat} (h : a ≤ L) : a ≤ sk f L a := (sk_all _ a rfl h).1
theorem sk_le {f : Nat → Int32} {L a : Nat} (h : a ≤ L) : sk f L a ≤ L := (sk_all _ a rfl h).2.1
theorem sk_sk {f : Nat → Int32} {L a : Nat} (h : a ≤ L) : sk f L (sk f L a) = sk f L a := sk_no (sk_all _ a rfl h).2.2
def dgp (f : Nat → Int32) (L : Nat) : Nat → Nat → Nat → Nat × Nat
  | 0, a, v => (a, v)
  | k + 1, a, v => if a < L ∧ 48 ≤ (f a).toInt ∧ (f a).toInt ≤ 57 then dgp f L k (a + 1) (min (10 * v + ((f a).toInt - 48).toNat) 1001) else (a, v)
def dg (f : Nat → Int32) (L a v : Nat) : Nat × Nat := dgp f L (L - a) a v
theorem dg_go {f : Nat → Int32} {L a v : Nat} (h : a < L) (h1 : 48 ≤ (f a).toInt) (h2 : (f a).toInt ≤ 57) : dg f L a v = dg f L (a + 1) (min (10 * v + ((f a).toInt - 48).toNat) 1001) := by
  unfold dg
  obtain ⟨k, hk⟩ : ∃ k, L - a = k + 1 := ⟨L - a - 1, by omega⟩
  rw [hk, show L - (a + 1) = k by omega]
  exact if_pos ⟨h, h1, h2⟩
theorem dg_no {f : Nat → Int32} {L a v : Nat} (h : ¬ (a < L ∧ 48 ≤ (f a).toInt ∧ (f a).toInt ≤ 57)) : dg f L a v = (a, v) := by
  unfold dg
  cases L - a with
  | zero => rfl
  | succ k => exact if_neg h
theorem dg_all {f : Nat → Int32} {L : Nat} : ∀ (k a v : Nat), L - a = k → a ≤ L → v ≤ 1001 → a ≤ (dg f L a v).1 ∧ (dg f L a v).1 ≤ L ∧ (dg f L a v).2 ≤ 1001 := by
  intro k
  induction k with
  | zero =>
    intro a v h1 h2 h3
    rw [dg_no (fun z => absurd z.1 (by omega))]
    exact ⟨Nat.le_refl _, h2, h3⟩
  | succ k ih =>
    intro a v h1 h2 h3
    by_cases h : 48 ≤ (f a).toInt ∧ (f a).toInt ≤ 57
    · rw [dg_go (by omega) h.1 h.2]
      obtain ⟨i1, i2, i3⟩ := ih (a + 1) (min (10 * v + ((f a).toInt - 48).toNat) 1001) (by omega) (by omega) (Nat.min_le_right _ _)
      exact ⟨by omega, i2, i3⟩
    · rw [dg_no (fun z => h z.2)]
      exact ⟨Nat.le_refl _, h2, h3⟩
theorem dg_le {f : Nat → Int32} {L a : Nat} (h : a ≤ L) : (dg f L a 0).1 ≤ L := (dg_all _ a 0 rfl h (by omega)).2.1
theorem dg_v {f : Nat → Int32} {L a : Nat} (h : a ≤ L) : (dg f L a 0).2 ≤ 1001 := (dg_all _ a 0 rfl h (by omega)).2.2
theorem dg_gt {f : Nat → Int32} {L a v : Nat} (h : a < L) (h1 : 48 ≤ (f a).toInt) (h2 : (f a).toInt ≤ 57) : a < (dg f L a v).1 := by
  rw [dg_go h h1 h2]
  have := (dg_all (f := f) (L := L) _ (a + 1) (min (10 * v + ((f a).toInt - 48).toNat) 1001) rfl (by omega) (Nat.min_le_right _ _)).1
  omega
/-- no number of these bounds stands there -/
abbrev nmB (f : Nat → Int32) (L s : Nat) (lo hi : Int) : Prop := (dg f L s 0).1 = s ∨ ¬ (lo ≤ ((dg f L s 0).2 : Int) ∧ ((dg f L s 0).2 : Int) ≤ hi)
def p_c (f : Nat → Int32) (L a : Nat) : Nat := sk f L (dg f L (sk f L a) 0).1
def p_t (f : Nat → Int32) (L a : Nat) : Nat := sk f L (p_c f L a + 1)
/-- a pair: is it one, the place behind it (or of the fault), works, part -/
def pr (f : Nat → Int32) (L W a : Nat) : Bool × Nat × Nat × Nat :=
  if nmB f L (sk f L a) 0 ((W : Int) - 1) then (false, sk f L a, 0, 0)
  else if p_c f L a < L ∧ f (p_c f L a) = 58 then
    (if nmB f L (p_t f L a) 1 1000 then (false, p_t f L a, 0, 0)
    else (true, (dg f L (p_t f L a) 0).1, (dg f L (sk f L a) 0).2, (dg f L (p_t f L a) 0).2))
  else (false, p_c f L a, 0, 0)
theorem pr_1 {f : Nat → Int32} {L W a : Nat} (h : nmB f L (sk f L a) 0 ((W : Int) - 1)) : pr f L W a = (false, sk f L a, 0, 0) := if_pos h
theorem pr_2 {f : Nat → Int32} {L W a : Nat} (h : ¬ nmB f L (sk f L a) 0 ((W : Int) - 1)) (h2 : ¬ (p_c f L a < L ∧ f (p_c f L a) = 58)) : pr f L W a = (false, p_c f L a, 0, 0) := (if_neg h).trans (if_neg h2)
theorem pr_3 {f : Nat → Int32} {L W a : Nat} (h : ¬ nmB f L (sk f L a) 0 ((W : Int) - 1)) (h2 : p_c f L a < L ∧ f (p_c f L a) = 58) (h3 : nmB f L (p_t f L a) 1 1000) : pr f L W a = (false, p_t f L a, 0, 0) := (if_neg h).trans ((if_pos h2).trans (if_pos h3))
theorem pr_4 {f : Nat → Int32} {L W a : Nat} (h : ¬ nmB f L (sk f L a) 0 ((W : Int) - 1)) (h2 : p_c f L a < L ∧ f (p_c f L a) = 58) (h3 : ¬ nmB f L (p_t f L a) 1 1000) : pr f L W a = (true, (dg f L (p_t f L a) 0).1, (dg f L (sk f L a) 0).2, (dg f L (p_t f L a) 0).2) := (if_neg h).trans ((if_pos h2).trans (if_neg h3))
theorem nmB_no {f : Nat → Int32} {L s : Nat} {lo hi : Int} (h : ¬ nmB f L s lo hi) : ¬ (dg f L s 0).1 = s ∧ lo ≤ ((dg f L s 0).2 : Int) ∧ ((dg f L s 0).2 : Int) ≤ hi := by
  refine ⟨fun z => h (Or.inl z), ?_⟩
  by_cases z : lo ≤ ((dg f L s 0).2 : Int) ∧ ((dg f L s 0).2 : Int) ≤ hi
  · exact z
  · exact absurd (Or.inr z) h
theorem p_c_le {f : Nat → Int32} {L a : Nat} (h : a ≤ L) : p_c f L a ≤ L := sk_le (dg_le (sk_le h))
theorem pr_le {f : Nat → Int32} {L W a : Nat} (h : a ≤ L) : (pr f L W a).2.1 ≤ L := by
  by_cases h1 : nmB f L (sk f L a) 0 ((W : Int) - 1)
  · rw [pr_1 h1]; exact sk_le h
  · by_cases h2 : p_c f L a < L ∧ f (p_c f L a) = 58
    · have h5 : p_t f L a ≤ L := sk_le (by omega)
      by_cases h3 : nmB f L (p_t f L a) 1 1000
      · rw [pr_3 h1 h2 h3]; exact h5
      · rw [pr_4 h1 h2 h3]; exact dg_le h5
    · rw [pr_2 h1 h2]; exact p_c_le h
theorem pr_ok {f : Nat → Int32} {L W a : Nat} (h : (pr f L W a).1 = true) : (pr f L W a).2.2.1 < W ∧ 1 ≤ (pr f L W a).2.2.2 ∧ (pr f L W a).2.2.2 ≤ 1000 := by
  by_cases h1 : nmB f L (sk f L a) 0 ((W : Int) - 1)
  · rw [pr_1 h1] at h; cases h
  · by_cases h2 : p_c f L a < L ∧ f (p_c f L a) = 58
    · by_cases h3 : nmB f L (p_t f L a) 1 1000
      · rw [pr_3 h1 h2 h3] at h; cases h
      · have k1 := nmB_no h1
        have k3 := nmB_no h3
        rw [pr_4 h1 h2 h3]
        show (dg f L (sk f L a) 0).2 < W ∧ 1 ≤ (dg f L (p_t f L a) 0).2 ∧ (dg f L (p_t f L a) 0).2 ≤ 1000
        exact ⟨by omega, by omega, by omega⟩
    · rw [pr_2 h1 h2] at h; cases h
def p_g (f : Nat → Int32) (L W a : Nat) : Nat := sk f L (pr f L W a).2.1
/-- all pairs: are they a text; how many (or the fault's place); what is told, the latest first -/
def rp (f : Nat → Int32) (L W : Nat) : Nat → Nat → Nat → List (Nat × Nat) → Bool × Nat × List (Nat × Nat)
  | 0, _, a, U => (false, a, U)
  | k + 1, n, a, U => if (pr f L W a).1 = true then
      (if p_g f L W a < L then
        (if 0 < k ∧ f (p_g f L W a) = 44 then rp f L W k (n + 1) (p_g f L W a + 1) ((pr f L W a).2.2 :: U) else (false, p_g f L W a, (pr f L W a).2.2 :: U))
      else (true, n + 1, (pr f L W a).2.2 :: U))
    else (false, (pr f L W a).2.1, U)
theorem rp_1 {f : Nat → Int32} {L W k n a : Nat} {U : List (Nat × Nat)} (h : (pr f L W a).1 = false) : rp f L W (k + 1) n a U = (false, (pr f L W a).2.1, U) := if_neg (by rw [h]; decide)
theorem rp_2 {f : Nat → Int32} {L W k n a : Nat} {U : List (Nat × Nat)} (h : (pr f L W a).1 = true) (h2 : ¬ p_g f L W a < L) : rp f L W (k + 1) n a U = (true, n + 1, (pr f L W a).2.2 :: U) := (if_pos h).trans (if_neg h2)
theorem rp_3 {f : Nat → Int32} {L W k n a : Nat} {U : List (Nat × Nat)} (h : (pr f L W a).1 = true) (h2 : p_g f L W a < L) (h3 : ¬ (0 < k ∧ f (p_g f L W a) = 44)) : rp f L W (k + 1) n a U = (false, p_g f L W a, (pr f L W a).2.2 :: U) := (if_pos h).trans ((if_pos h2).trans (if_neg h3))
theorem rp_4 {f : Nat → Int32} {L W k n a : Nat} {U : List (Nat × Nat)} (h : (pr f L W a).1 = true) (h2 : p_g f L W a < L) (h3 : 0 < k ∧ f (p_g f L W a) = 44) : rp f L W (k + 1) n a U = rp f L W k (n + 1) (p_g f L W a + 1) ((pr f L W a).2.2 :: U) := (if_pos h).trans ((if_pos h2).trans (if_pos h3))
def okU (U : List (Nat × Nat)) : Prop := ∀ q ∈ U, 1 ≤ q.2 ∧ q.2 ≤ 1000
theorem okU_c {q : Nat × Nat} {U : List (Nat × Nat)} (h : okU U) (hq : 1 ≤ q.2 ∧ q.2 ≤ 1000) : okU (q :: U) := by
  intro p hp
  rcases List.mem_cons.mp hp with e | hp
  · rw [e]; exact hq
  · exact h p hp
theorem rp_all {f : Nat → Int32} {L W : Nat} : ∀ (k n a : Nat) (U : List (Nat × Nat)), a ≤ L → okU U → okU (rp f L W k n a U).2.2 ∧ ((rp f L W k n a U).1 = true → 1 ≤ (rp f L W k n a U).2.1 ∧ (rp f L W k n a U).2.1 ≤ n + k) ∧ ((rp f L W k n a U).1 = false → (rp f L W k n a U).2.1 ≤ L) := by
  intro k
  induction k with
  | zero => intro n a U ha hU; exact ⟨hU, fun z => absurd (show false = true from z) (by decide), fun _ => ha⟩
  | succ k ih =>
    intro n a U ha hU
    cases h : (pr f L W a).1 with
    | false => rw [rp_1 h]; exact ⟨hU, fun z => absurd (show false = true from z) (by decide), fun _ => pr_le ha⟩
    | true =>
      have ok := pr_ok h
      have hU2 : okU ((pr f L W a).2.2 :: U) := okU_c hU ok.2
      have hg : p_g f L W a ≤ L := sk_le (pr_le ha)
      by_cases h2 : p_g f L W a < L
      · by_cases h3 : 0 < k ∧ f (p_g f L W a) = 44
        · rw [rp_4 h h2 h3]
          obtain ⟨i1, i2, i3⟩ := ih (n + 1) (p_g f L W a + 1) _ (by omega) hU2
          exact ⟨i1, fun z => ⟨(i2 z).1, by have := (i2 z).2; omega⟩, i3⟩
        · rw [rp_3 h h2 h3]; exact ⟨hU2, fun z => absurd (show false = true from z) (by decide), fun _ => hg⟩
      · rw [rp_2 h h2]; exact ⟨hU2, fun _ => ⟨by show 1 ≤ n + 1; omega, by show n + 1 ≤ n + (k + 1); omega⟩, fun z => absurd (show true = false from z) (by decide)⟩
def ap_u (T : Nat → Int32) : List (Nat × Nat) → (Nat → Int32)
  | [] => T
  | q :: U => upd (ap_u T U) q.1 (nI q.2)
def rs (q : Bool × Nat × List (Nat × Nat)) : Int32 := if q.1 = true then nI q.2.1 else -20 - nI q.2.1
def tkp (W : Nat) (T p : Nat → Int32) : Nat → Int32 := fun z => if z < W ∧ 0 < (T z).toInt then T z else p z
theorem ap_two {T R : Nat → Int32} {p : Nat → Int32} {W : Nat} (hT : ∀ z, z < W → T z = 0) (hR : ∀ z, z < W → R z = p z) : ∀ (U : List (Nat × Nat)), okU U → ∀ z, z < W → (0 < (ap_u T U z).toInt ∧ ap_u T U z = ap_u R U z) ∨ (ap_u T U z = 0 ∧ ap_u R U z = p z)
  | [], _, z, hz => Or.inr ⟨hT z hz, hR z hz⟩
  | q :: U, h, z, hz => by
    have hq := h q (List.mem_cons_self ..)
    show (0 < (upd (ap_u T U) q.1 (nI q.2) z).toInt ∧ upd (ap_u T U) q.1 (nI q.2) z = upd (ap_u R U) q.1 (nI q.2) z) ∨ (upd (ap_u T U) q.1 (nI q.2) z = 0 ∧ upd (ap_u R U) q.1 (nI q.2) z = p z)
    unfold upd
    by_cases e : z = q.1
    · rw [if_pos e, if_pos e]
      exact Or.inl ⟨by rw [nI_toInt (by omega)]; omega, rfl⟩
    · rw [if_neg e, if_neg e]
      exact ap_two hT hR U (fun p hp => h p (List.mem_cons_of_mem _ hp)) z hz
theorem tkp_eq {T R : Nat → Int32} {p : Nat → Int32} {W : Nat} {U : List (Nat × Nat)} (hT : ∀ z, z < W → T z = 0) (hR : ∀ z, z < W → R z = p z) (hU : okU U) : tkp W (ap_u T U) p = fun z => if z < W then ap_u R U z else p z := by
  funext z
  unfold tkp
  by_cases hz : z < W
  · rw [if_pos hz]
    rcases ap_two hT hR U hU z hz with ⟨a, b⟩ | ⟨a, b⟩
    · rw [if_pos ⟨hz, a⟩]; exact b
    · rw [if_neg (fun q => by have := q.2; rw [a] at this; exact absurd this (by decide))]; exact b.symm
  · rw [if_neg hz, if_neg (fun q => hz q.1)]
