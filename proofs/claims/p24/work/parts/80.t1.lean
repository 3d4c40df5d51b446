/-! what is parted, purely -/
def isb (E : Nat → Bool) (r : Nat → Int) (n j : Nat) : Prop := j < n ∧ E j = true ∧ (∀ z, z < n → E z = true → r z ≤ r j) ∧ (∀ z, z < j → E z = true → r z < r j)
theorem isb_u {E : Nat → Bool} {r : Nat → Int} {n i j : Nat} (h1 : isb E r n i) (h2 : isb E r n j) : i = j := by
  obtain ⟨a1, a2, a3, a4⟩ := h1
  obtain ⟨b1, b2, b3, b4⟩ := h2
  by_cases h : i < j
  · have h3 := b4 i h a2
    have h4 := a3 j b1 b2
    omega
  · by_cases h' : j < i
    · have h3 := a4 j h' b2
      have h4 := b3 i a1 a2
      omega
    · omega
def up1 (f : Nat → Int) (j : Nat) (v : Int) : Nat → Int := fun z => if z = j then v else f z
def off (E : Nat → Bool) (j : Nat) : Nat → Bool := fun z => if z = j then false else E z
def RZ (r : Nat → Int) (W : Nat) : Nat → (Nat → Int) → (Nat → Bool) → (Nat → Int) → Prop
  | 0, f, _, g => ∀ z, z < W → g z = f z
  | m + 1, f, E, g => ∃ j, isb E r W j ∧ RZ r W m (up1 f j (f j + 1)) (off E j) g
theorem RZ_u {r : Nat → Int} {W : Nat} : ∀ (m : Nat) (f f' : Nat → Int) (E : Nat → Bool) (g g' : Nat → Int), (∀ z, z < W → f z = f' z) → RZ r W m f E g → RZ r W m f' E g' → ∀ z, z < W → g z = g' z
  | 0, f, f', E, g, g', hf, h1, h2, z, hz => by rw [h1 z hz, h2 z hz]; exact hf z hz
  | m + 1, f, f', E, g, g', hf, h1, h2, z, hz => by
    obtain ⟨j, b1, h1⟩ := h1
    obtain ⟨i, b2, h2⟩ := h2
    have e := isb_u b1 b2
    subst e
    refine RZ_u m _ _ _ g g' (fun z hz => ?_) h1 h2 z hz
    unfold up1
    by_cases e : z = j
    · rw [if_pos e, if_pos e, hf j b1.1]
    · rw [if_neg e, if_neg e]; exact hf z hz
theorem RZ_b {r : Nat → Int} {W : Nat} : ∀ (m : Nat) (f : Nat → Int) (E : Nat → Bool) (g : Nat → Int), RZ r W m f E g → ∀ z, z < W → (E z = false → g z = f z) ∧ f z ≤ g z ∧ g z ≤ f z + 1
  | 0, f, E, g, h, z, hz => by rw [h z hz]; exact ⟨fun _ => rfl, by omega, by omega⟩
  | m + 1, f, E, g, h, z, hz => by
    obtain ⟨j, b1, h1⟩ := h
    have ih := RZ_b m _ _ g h1 z hz
    unfold up1 off at ih
    by_cases e : z = j
    · rw [if_pos e, if_pos e] at ih
      have i1 := ih.1 rfl
      subst e
      exact ⟨fun q => absurd (b1.2.1.symm.trans q) (by decide), by omega, by omega⟩
    · rw [if_neg e, if_neg e] at ih
      exact ih
theorem RZ_set {r : Nat → Int} {W w : Nat} : ∀ (m : Nat) (f : Nat → Int) (E : Nat → Bool) (g : Nat → Int), E w = false → RZ r W m f E g → RZ r W m (up1 f w 0) E (up1 g w 0)
  | 0, f, E, g, _, h => fun z hz => by
    unfold up1
    by_cases e : z = w
    · rw [if_pos e, if_pos e]
    · rw [if_neg e, if_neg e]; exact h z hz
  | m + 1, f, E, g, hw, h => by
    obtain ⟨j, b1, h1⟩ := h
    have jw : ¬ j = w := fun e => by rw [← e, b1.2.1] at hw; cases hw
    have h2 := RZ_set m _ _ g (show off E j w = false by unfold off; rw [if_neg (fun e => jw e.symm)]; exact hw) h1
    have e : up1 (up1 f j (f j + 1)) w 0 = up1 (up1 f w 0) j (up1 f w 0 j + 1) := by
      funext z
      unfold up1
      by_cases e1 : z = w
      · rw [if_pos e1, if_neg (fun e2 => jw (e2.symm.trans e1)), if_pos e1]
      · rw [if_neg e1, if_neg e1, if_neg jw]
    rw [e] at h2
    exact ⟨j, b1, h2⟩
theorem su_ge {b : Nat → Bool} {p : Nat → Int} : ∀ (n : Nat), (∀ z, z < n → 0 ≤ p z) → ∀ z, z < n → b z = true → p z ≤ su b p n
  | 0, _, z, hz, _ => absurd hz (by omega)
  | n + 1, hp, z, hz, hb => by
    have h1 := su_nn (b := b) n (fun z hz => hp z (by omega))
    have h2 := hp n (by omega)
    have h3 : su b p (n + 1) = su b p n + (bif b n then p n else 0) := rfl
    rw [h3]
    by_cases e : z = n
    · subst e
      rw [hb]
      show p z ≤ su b p z + p z
      omega
    · have h4 := su_ge n (fun z hz => hp z (by omega)) z (by omega) hb
      cases b n <;> simp only [cond_true, cond_false] <;> omega
def PTR (N : Int) (B : Nat → Bool) (p : Nat → Int) (W : Nat) (f g : Nat → Int) : Prop := (su B p W = 0 ∧ ∀ z, z < W → g z = f z) ∨ (¬ su B p W = 0 ∧ RZ (fun z => N * p z % su B p W) W (N - su B (fun z => N * p z / su B p W) W).toNat (fun z => f z + (if B z = true then N * p z / su B p W else 0)) B g)
theorem PTR_u {N : Int} {B : Nat → Bool} {p : Nat → Int} {W : Nat} {f f' g g' : Nat → Int} (hf : ∀ z, z < W → f z = f' z) (h1 : PTR N B p W f g) (h2 : PTR N B p W f' g') : ∀ z, z < W → g z = g' z := by
  intro z hz
  rcases h1 with ⟨a, h1⟩ | ⟨a, h1⟩
  · rcases h2 with ⟨b, h2⟩ | ⟨b, h2⟩
    · rw [h1 z hz, h2 z hz]; exact hf z hz
    · exact absurd a b
  · rcases h2 with ⟨b, h2⟩ | ⟨b, h2⟩
    · exact absurd b a
    · exact RZ_u _ _ _ _ g g' (fun z hz => by show f z + _ = f' z + _; rw [hf z hz]) h1 h2 z hz
theorem PTR_b {N : Int} {B : Nat → Bool} {p : Nat → Int} {W : Nat} {f g : Nat → Int} (hN : 0 ≤ N) (hp : ∀ z, z < W → 0 ≤ p z) (h : PTR N B p W f g) : ∀ z, z < W → (B z = false → g z = f z) ∧ f z ≤ g z ∧ g z ≤ f z + N + 1 := by
  intro z hz
  rcases h with ⟨a, h⟩ | ⟨a, h⟩
  · rw [h z hz]; exact ⟨fun _ => rfl, by omega, by omega⟩
  · have h1 := RZ_b _ _ _ _ h z hz
    have h1 : (B z = false → g z = f z + (if B z = true then N * p z / su B p W else 0)) ∧ f z + (if B z = true then N * p z / su B p W else 0) ≤ g z ∧ g z ≤ f z + (if B z = true then N * p z / su B p W else 0) + 1 := h1
    have a0 := su_nn (b := B) W hp
    have hA : 0 < su B p W := by omega
    cases hb : B z with
    | false =>
      rw [hb, if_neg (by decide)] at h1
      have := h1.1 rfl
      exact ⟨fun _ => by omega, by omega, by omega⟩
    | true =>
      rw [if_pos hb] at h1
      have k1 := su_ge (b := B) W hp z hz hb
      have e6 : 0 ≤ N * p z := Int.mul_nonneg hN (hp z hz)
      have e7 : N * p z ≤ N * su B p W := Int.mul_le_mul_of_nonneg_left k1 hN
      have e8 := Int.ediv_le_ediv hA e7
      rw [Int.mul_ediv_cancel N (by omega)] at e8
      have e9 : 0 ≤ N * p z / su B p W := Int.ediv_nonneg e6 (by omega)
      exact ⟨fun q => absurd q (by decide), by omega, by omega⟩
theorem PTR_set {N : Int} {B : Nat → Bool} {p : Nat → Int} {W w : Nat} {f g : Nat → Int} (hw : B w = false) (h : PTR N B p W f g) : PTR N B p W (up1 f w 0) (up1 g w 0) := by
  rcases h with ⟨a, h⟩ | ⟨a, h⟩
  · exact Or.inl ⟨a, fun z hz => by
      unfold up1
      by_cases e : z = w
      · rw [if_pos e, if_pos e]
      · rw [if_neg e, if_neg e]; exact h z hz⟩
  · have h2 := RZ_set _ _ _ _ hw h
    have e : up1 (fun z => f z + (if B z = true then N * p z / su B p W else 0)) w 0 = fun z => up1 f w 0 z + (if B z = true then N * p z / su B p W else 0) := by
      funext z
      show (if z = w then 0 else f z + (if B z = true then N * p z / su B p W else 0)) = (if z = w then 0 else f z) + (if B z = true then N * p z / su B p W else 0)
      by_cases e : z = w
      · rw [if_pos e, if_pos e, e, hw, if_neg (by decide)]
        rfl
      · rw [if_neg e, if_neg e]
    rw [e] at h2
    exact Or.inr ⟨a, h2⟩
def QL (B : Nat → Bool) (p : Nat → Int) (W : Nat) : Nat → (Nat → Int) → (Nat → Int) → Prop
  | 0, f, g => ∀ z, z < W → g z = f z
  | n + 1, f, g => ∃ h, QL B p W n f h ∧ ((B n = true ∧ ∀ z, z < W → g z = h z) ∨ (B n = false ∧ PTR (h n) B p W (up1 h n 0) g))
theorem QL_u {B : Nat → Bool} {p : Nat → Int} {W : Nat} : ∀ (n : Nat) (f f' g g' : Nat → Int), n ≤ W → (∀ z, z < W → f z = f' z) → QL B p W n f g → QL B p W n f' g' → ∀ z, z < W → g z = g' z
  | 0, f, f', g, g', _, hf, h1, h2, z, hz => by rw [h1 z hz, h2 z hz]; exact hf z hz
  | n + 1, f, f', g, g', hn, hf, h1, h2, z, hz => by
    obtain ⟨h, q1, h1⟩ := h1
    obtain ⟨h', q2, h2⟩ := h2
    have ih := QL_u n f f' h h' (by omega) hf q1 q2
    rcases h1 with ⟨a, h1⟩ | ⟨a, h1⟩
    · rcases h2 with ⟨b, h2⟩ | ⟨b, h2⟩
      · rw [h1 z hz, h2 z hz]; exact ih z hz
      · rw [a] at b; cases b
    · rcases h2 with ⟨b, h2⟩ | ⟨b, h2⟩
      · rw [a] at b; cases b
      · rw [← ih n (by omega)] at h2
        refine PTR_u (fun z hz => ?_) h1 h2 z hz
        unfold up1
        by_cases e : z = n
        · rw [if_pos e, if_pos e]
        · rw [if_neg e, if_neg e]; exact ih z hz
theorem QL_b {B : Nat → Bool} {p : Nat → Int} {W : Nat} (hp : ∀ z, z < W → 0 ≤ p z) : ∀ (n : Nat) (f g : Nat → Int), n ≤ W → (∀ z, z < W → 0 ≤ f z ∧ f z ≤ 1000001) → QL B p W n f g → ∀ z, z < W → 0 ≤ g z ∧ g z ≤ 1000001 + n * 1000002 ∧ (B z = false → n ≤ z → g z = f z)
  | 0, f, g, _, hf, h, z, hz => by rw [h z hz]; have := hf z hz; exact ⟨by omega, by omega, fun _ _ => rfl⟩
  | n + 1, f, g, hn, hf, h, z, hz => by
    obtain ⟨h, q1, h1⟩ := h
    have ih := QL_b hp n f h (by omega) hf q1
    rcases h1 with ⟨a, h1⟩ | ⟨a, h1⟩
    · rw [h1 z hz]
      have i1 := ih z hz
      exact ⟨i1.1, by omega, fun c d => i1.2.2 c (by omega)⟩
    · have i0 := ih n (by omega)
      have e0 := i0.2.2 a (Nat.le_refl n)
      have f0 := hf n (by omega)
      have k := PTR_b (by omega) hp h1 z hz
      have i1 := ih z hz
      unfold up1 at k
      by_cases e : z = n
      · rw [if_pos e] at k
        exact ⟨by omega, by omega, fun _ d => absurd d (by omega)⟩
      · rw [if_neg e] at k
        exact ⟨by omega, by omega, fun c d => (k.1 c).trans (i1.2.2 c (by omega))⟩
def QU (T : Int) (B : Nat → Bool) (p : Nat → Int) (W : Nat) (g : Nat → Int) : Prop := ∃ f, PTR T (fun _ => true) p W (fun _ => 0) f ∧ QL B p W W f g
theorem QU_u {T : Int} {B : Nat → Bool} {p : Nat → Int} {W : Nat} {g g' : Nat → Int} (h1 : QU T B p W g) (h2 : QU T B p W g') : ∀ z, z < W → g z = g' z := by
  obtain ⟨f, a1, b1⟩ := h1
  obtain ⟨f', a2, b2⟩ := h2
  exact QL_u W f f' g g' (Nat.le_refl _) (PTR_u (fun _ _ => rfl) a1 a2) b1 b2
theorem QU_b {T : Int} {B : Nat → Bool} {p : Nat → Int} {W : Nat} {g : Nat → Int} (hT : 0 ≤ T ∧ T ≤ 1000000) (hW : W ≤ 8) (hp : ∀ z, z < W → 0 ≤ p z) (h : QU T B p W g) : ∀ z, z < W → 0 ≤ g z ∧ g z ≤ 9000017 := by
  obtain ⟨f, a, b⟩ := h
  intro z hz
  have k := QL_b hp W f g (Nat.le_refl _) (fun z hz => by have := PTR_b hT.1 hp a z hz; exact ⟨by omega, by omega⟩) b z hz
  exact ⟨k.1, by omega⟩
/-! which works are open, what is lent, purely -/
def ofs (k o wk : Nat → Int32) (a w : Int32) : Nat → Bool × Int32
  | 0 => (true, 0)
  | n + 1 => if ¬ k n = 0 ∧ o n = w ∧ wk n ≤ a ∧ (ofs k o wk a w n).2 ≤ wk n then (decide (k n = 2), wk n) else ofs k o wk a w n
theorem ofs_y {k o wk : Nat → Int32} {a w : Int32} {n : Nat} (h : ¬ k n = 0 ∧ o n = w ∧ wk n ≤ a ∧ (ofs k o wk a w n).2 ≤ wk n) : ofs k o wk a w (n + 1) = (decide (k n = 2), wk n) := if_pos h
theorem ofs_n {k o wk : Nat → Int32} {a w : Int32} {n : Nat} (h : ¬ (¬ k n = 0 ∧ o n = w ∧ wk n ≤ a ∧ (ofs k o wk a w n).2 ≤ wk n)) : ofs k o wk a w (n + 1) = ofs k o wk a w n := if_neg h
def lz (k o t m wk : Nat → Int32) (a w : Int32) : Nat → Int
  | 0 => 0
  | n + 1 => lz k o t m wk a w n + (if k n = 0 ∧ wk n ≤ a then (if t n = w then (m n).toInt else 0) - (if o n = w then (m n).toInt else 0) else 0)
theorem lz_n {k o t m wk : Nat → Int32} {a w : Int32} {n : Nat} (h : ¬ (k n = 0 ∧ wk n ≤ a)) : lz k o t m wk a w (n + 1) = lz k o t m wk a w n := by
  show lz k o t m wk a w n + (if k n = 0 ∧ wk n ≤ a then _ else 0) = _
  rw [if_neg h, Int.add_zero]
theorem lz_y {k o t m wk : Nat → Int32} {a w : Int32} {n : Nat} (h : k n = 0 ∧ wk n ≤ a) : lz k o t m wk a w (n + 1) = lz k o t m wk a w n + ((if t n = w then (m n).toInt else 0) - (if o n = w then (m n).toInt else 0)) := by
  show lz k o t m wk a w n + (if k n = 0 ∧ wk n ≤ a then _ else 0) = _
  rw [if_pos h]
theorem lz_b {k o t m wk : Nat → Int32} {a w : Int32} (hm : ∀ j, rg (m j) 0 100000) : ∀ n : Nat, -(100000 * (n : Int)) ≤ lz k o t m wk a w n ∧ lz k o t m wk a w n ≤ 100000 * (n : Int)
  | 0 => by exact ⟨by show -(100000 * ((0 : Nat) : Int)) ≤ 0; omega, by show (0 : Int) ≤ 100000 * ((0 : Nat) : Int); omega⟩
  | n + 1 => by
    have ih := lz_b (k := k) (o := o) (t := t) (wk := wk) (a := a) (w := w) hm n
    obtain ⟨m0, m1⟩ := hm n
    by_cases h : k n = 0 ∧ wk n ≤ a
    · rw [lz_y h]
      by_cases h1 : t n = w
      · rw [if_pos h1]
        by_cases h2 : o n = w
        · rw [if_pos h2]; exact ⟨by omega, by omega⟩
        · rw [if_neg h2]; exact ⟨by omega, by omega⟩
      · rw [if_neg h1]
        by_cases h2 : o n = w
        · rw [if_pos h2]; exact ⟨by omega, by omega⟩
        · rw [if_neg h2]; exact ⟨by omega, by omega⟩
    · rw [lz_n h]; exact ⟨by omega, by omega⟩
theorem lz_t {k o t t' m wk : Nat → Int32} {a w : Int32} (h : ∀ j, k j = 0 → t j = t' j) : ∀ n : Nat, lz k o t m wk a w n = lz k o t' m wk a w n
  | 0 => rfl
  | n + 1 => by
    have ih := lz_t (o := o) (m := m) (wk := wk) (a := a) (w := w) h n
    by_cases c : k n = 0 ∧ wk n ≤ a
    · rw [lz_y c, lz_y c, ih, h n c.1]
    · rw [lz_n c, lz_n c, ih]
theorem off_ct {E : Nat → Bool} {W j : Nat} (hj : E j = true) (h : j < W) : ct (off E j) W + 1 = ct E W := ct_off hj (by unfold off; rw [if_pos rfl]) (fun z hz => by unfold off; rw [if_neg hz]) W h
