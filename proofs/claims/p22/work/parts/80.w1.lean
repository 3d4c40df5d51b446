/-! the orders of ships, what an order costs, the row that counts up: pure -/
def yl_ct (L : Nat → Bool) : Nat → Nat
  | 0 => 0
  | n + 1 => if L n = true then yl_ct L n + 1 else yl_ct L n
def yl_enG (L : Nat → Bool) : Nat → Nat → Nat → Int
  | 0, day, left => if L 59 = true then (day : Int) + left - 1 else -1
  | k + 1, day, left => if L day = true then (if left = 1 then (day : Int) else yl_enG L k (day + 1) (left - 1)) else yl_enG L k (day + 1) left
theorem yl_ct_mono (L : Nat → Bool) {a : Nat} : ∀ {b : Nat}, a ≤ b → yl_ct L a ≤ yl_ct L b
  | 0, h => by
    have e : a = 0 := by omega
    subst e
    exact Nat.le_refl _
  | b + 1, h => by
    by_cases e : a = b + 1
    · subst e; exact Nat.le_refl _
    · have ih := yl_ct_mono L (a := a) (b := b) (by omega)
      show yl_ct L a ≤ if L b = true then yl_ct L b + 1 else yl_ct L b
      by_cases c : L b = true
      · rw [if_pos c]; omega
      · rw [if_neg c]; exact ih
theorem yl_ct_le (L : Nat → Bool) : ∀ n : Nat, yl_ct L n ≤ n
  | 0 => Nat.le_refl _
  | n + 1 => by
    have ih := yl_ct_le L n
    show (if L n = true then yl_ct L n + 1 else yl_ct L n) ≤ n + 1
    by_cases c : L n = true
    · rw [if_pos c]; omega
    · rw [if_neg c]; omega
theorem yl_en_ct {L : Nat → Bool} {lo : Nat → Int} (h : ∀ d : Nat, d < 60 → L d = true → lo (yl_ct L d) = d) : ∀ (k day l : Nat), day + k = 60 → yl_enG L k day (l + 1) = if yl_ct L day + l < yl_ct L 60 then lo (yl_ct L day + l) else if L 59 = true then 60 + ((yl_ct L day + l : Nat) : Int) - ((yl_ct L 60 : Nat) : Int) else -1
  | 0, day, l, e => by
    have e1 : day = 60 := by omega
    subst e1
    rw [if_neg (show ¬ yl_ct L 60 + l < yl_ct L 60 by omega)]
    show (if L 59 = true then ((60 : Nat) : Int) + ((l + 1 : Nat) : Int) - 1 else -1) = _
    by_cases c : L 59 = true
    · rw [if_pos c, if_pos c]; omega
    · rw [if_neg c, if_neg c]
  | k + 1, day, l, e => by
    have dl : day < 60 := by omega
    show (if L day = true then (if l + 1 = 1 then (day : Int) else yl_enG L k (day + 1) (l + 1 - 1)) else yl_enG L k (day + 1) (l + 1)) = _
    by_cases c : L day = true
    · rw [if_pos c]
      have ec : yl_ct L (day + 1) = yl_ct L day + 1 := if_pos c
      have mo := yl_ct_mono L (show day + 1 ≤ 60 by omega)
      cases l with
      | zero =>
        rw [if_pos rfl, if_pos (show yl_ct L day + 0 < yl_ct L 60 by omega), Nat.add_zero, h day dl c]
      | succ l =>
        rw [if_neg (show ¬ l + 1 + 1 = 1 by omega), show l + 1 + 1 - 1 = l + 1 by omega, yl_en_ct h k (day + 1) l (by omega), ec, show yl_ct L day + 1 + l = yl_ct L day + (l + 1) by omega]
    · rw [if_neg c]
      have ec : yl_ct L (day + 1) = yl_ct L day := if_neg c
      rw [yl_en_ct h k (day + 1) l (by omega), ec]
theorem yl_en_b {L : Nat → Bool} : ∀ (k day left : Nat), 1 ≤ left → yl_enG L k day left = -1 ∨ ((day : Int) ≤ yl_enG L k day left ∧ yl_enG L k day left ≤ (day : Int) + k + left - 1)
  | 0, day, left, h => by
    show (if L 59 = true then (day : Int) + left - 1 else -1) = -1 ∨ _
    by_cases c : L 59 = true
    · right
      show (day : Int) ≤ (if L 59 = true then (day : Int) + left - 1 else -1) ∧ (if L 59 = true then (day : Int) + left - 1 else -1) ≤ (day : Int) + ((0 : Nat) : Int) + left - 1
      rw [if_pos c]; exact ⟨by omega, by omega⟩
    · left; exact if_neg c
  | k + 1, day, left, h => by
    by_cases c : L day = true
    · by_cases c2 : left = 1
      · right
        have e : yl_enG L (k + 1) day left = day := by
          show (if L day = true then (if left = 1 then (day : Int) else yl_enG L k (day + 1) (left - 1)) else yl_enG L k (day + 1) left) = _
          rw [if_pos c, if_pos c2]
        rw [e]; exact ⟨by omega, by omega⟩
      · have e : yl_enG L (k + 1) day left = yl_enG L k (day + 1) (left - 1) := by
          show (if L day = true then (if left = 1 then (day : Int) else yl_enG L k (day + 1) (left - 1)) else yl_enG L k (day + 1) left) = _
          rw [if_pos c, if_neg c2]
        have ih := yl_en_b (L := L) k (day + 1) (left - 1) (by omega)
        rw [e]
        rcases ih with ih | ih
        · exact Or.inl ih
        · exact Or.inr ⟨by omega, by omega⟩
    · have e : yl_enG L (k + 1) day left = yl_enG L k (day + 1) left := if_neg c
      have ih := yl_en_b (L := L) k (day + 1) left h
      rw [e]
      rcases ih with ih | ih
      · exact Or.inl ih
      · exact Or.inr ⟨by omega, by omega⟩
/-! what an order costs -/
def yl_oc (E C : Nat → Int → Int) : List Nat → Int → Option Int
  | [], _ => some 0
  | s :: o, e => if E s e < 0 then none else match yl_oc E C o (E s e) with
    | none => none
    | some x => some (C s (E s e) + x)
theorem yl_oc_n {E C : Nat → Int → Int} {s : Nat} {o : List Nat} {e : Int} (h : E s e < 0) : yl_oc E C (s :: o) e = none := if_pos h
theorem yl_oc_s {E C : Nat → Int → Int} {s : Nat} {o : List Nat} {e x : Int} (h : yl_oc E C (s :: o) e = some x) : ¬ E s e < 0 ∧ ∃ y, yl_oc E C o (E s e) = some y ∧ x = C s (E s e) + y := by
  by_cases c : E s e < 0
  · rw [yl_oc_n c] at h; cases h
  · have e1 : yl_oc E C (s :: o) e = match yl_oc E C o (E s e) with
      | none => none
      | some x => some (C s (E s e) + x) := if_neg c
    rw [e1] at h
    cases hy : yl_oc E C o (E s e) with
    | none => rw [hy] at h; cases h
    | some y =>
      rw [hy] at h
      exact ⟨c, y, rfl, (Option.some.inj h).symm⟩
theorem yl_oc_c {E C : Nat → Int → Int} {s : Nat} {o : List Nat} {e y : Int} (c : ¬ E s e < 0) (h : yl_oc E C o (E s e) = some y) : yl_oc E C (s :: o) e = some (C s (E s e) + y) := by
  have e1 : yl_oc E C (s :: o) e = match yl_oc E C o (E s e) with
    | none => none
    | some x => some (C s (E s e) + x) := if_neg c
  rw [e1, h]
theorem yl_oc_0 {E C : Nat → Int → Int} {s : Nat} {o : List Nat} {e : Int} (c : ¬ E s e < 0) (h : yl_oc E C o (E s e) = none) : yl_oc E C (s :: o) e = none := by
  have e1 : yl_oc E C (s :: o) e = match yl_oc E C o (E s e) with
    | none => none
    | some x => some (C s (E s e) + x) := if_neg c
  rw [e1, h]
/-! all orders of a set of ships -/
def yl_ap : Nat → Nat → List (List Nat)
  | 0, m => if m = 0 then [[]] else []
  | k + 1, m => if m = 0 then [[]] else [0, 1, 2, 3, 4, 5].flatMap (fun s => if Nat.testBit m s = true then (yl_ap k (m - 2 ^ s)).map (fun o => s :: o) else [])
theorem yl_ap0 (k : Nat) : yl_ap k 0 = [[]] := by cases k <;> rfl
theorem yl_ap_n {m : Nat} (hm : ¬ m = 0) : yl_ap 0 m = [] := if_neg hm
theorem yl_ap_mem {k m : Nat} {o : List Nat} (hm : ¬ m = 0) : o ∈ yl_ap (k + 1) m ↔ ∃ s o', s < 6 ∧ Nat.testBit m s = true ∧ o' ∈ yl_ap k (m - 2 ^ s) ∧ o = s :: o' := by
  have e : yl_ap (k + 1) m = [0, 1, 2, 3, 4, 5].flatMap (fun s => if Nat.testBit m s = true then (yl_ap k (m - 2 ^ s)).map (fun o => s :: o) else []) := if_neg hm
  rw [e, List.mem_flatMap]
  constructor
  · rintro ⟨s, hs, ho⟩
    have ho : o ∈ (if Nat.testBit m s = true then (yl_ap k (m - 2 ^ s)).map (fun o => s :: o) else []) := ho
    have hs6 : s < 6 := by
      simp only [List.mem_cons, List.not_mem_nil, or_false] at hs
      omega
    by_cases c : Nat.testBit m s = true
    · rw [if_pos c] at ho
      obtain ⟨o', h1, h2⟩ := List.mem_map.mp ho
      exact ⟨s, o', hs6, c, h1, h2.symm⟩
    · rw [if_neg c] at ho; cases ho
  · rintro ⟨s, o', hs, hb, ho, rfl⟩
    refine ⟨s, ?_, ?_⟩
    · simp only [List.mem_cons, List.not_mem_nil, or_false]
      omega
    · show s :: o' ∈ (if Nat.testBit m s = true then (yl_ap k (m - 2 ^ s)).map (fun o => s :: o) else [])
      rw [if_pos hb]
      exact List.mem_map.mpr ⟨o', ho, rfl⟩
theorem yl_tb {m s c : Nat} (h : Nat.testBit m s = true) (hm : m < 2 ^ c) : s < c := by
  by_cases q : s < c
  · exact q
  · exfalso
    have h1 : 2 ^ c ≤ 2 ^ s := Nat.pow_le_pow_right (by decide) (by omega)
    have h2 := Nat.testBit_lt_two_pow (Nat.lt_of_lt_of_le hm h1)
    rw [h2] at h
    cases h
def yl_bd (E C : Nat → Int → Int) (c : Nat) : Prop := ∀ s : Nat, s < c → ∀ (d : Nat) (e : Int), d < 6 → -1 ≤ e → e ≤ 59 + 20000 * (d : Int) → E s e < 0 ∨ (0 ≤ E s e ∧ E s e ≤ 59 + 20000 * ((d : Int) + 1) ∧ 0 ≤ C s (E s e) ∧ C s (E s e) ≤ 12006000)
theorem yl_oc_b {E C : Nat → Int → Int} {c : Nat} (h : yl_bd E C c) : ∀ (k m d : Nat) (o : List Nat) (e x : Int), d + k = 6 → m < 2 ^ c → o ∈ yl_ap k m → -1 ≤ e → e ≤ 59 + 20000 * (d : Int) → yl_oc E C o e = some x → 0 ≤ x ∧ x ≤ 12006000 * (k : Int) := by
  have NIL : ∀ (k : Nat) (o : List Nat) (e x : Int), o ∈ [([] : List Nat)] → yl_oc E C o e = some x → 0 ≤ x ∧ x ≤ 12006000 * (k : Int) := by
    intro k o e x ho hx
    have e0 : o = [] := by
      cases ho with
      | head => rfl
      | tail _ z => cases z
    subst e0
    have e1 : (0 : Int) = x := Option.some.inj hx
    exact ⟨by omega, by omega⟩
  intro k
  induction k with
  | zero =>
    intro m d o e x hd hm ho he1 he2 hx
    by_cases c0 : m = 0
    · rw [c0, yl_ap0] at ho
      exact NIL _ o e x ho hx
    · rw [yl_ap_n c0] at ho; cases ho
  | succ k ih =>
    intro m d o e x hd hm ho he1 he2 hx
    by_cases c0 : m = 0
    · rw [c0, yl_ap0] at ho
      exact NIL _ o e x ho hx
    · obtain ⟨s, o', hs, hb, ho', rfl⟩ := (yl_ap_mem c0).mp ho
      obtain ⟨q, y, hy, ex⟩ := yl_oc_s hx
      have hb2 := (h s (yl_tb hb hm) d e (by omega) he1 he2).resolve_left q
      obtain ⟨b1, b2, b3, b4⟩ := hb2
      have hy2 := ih (m - 2 ^ s) (d + 1) o' (E s e) y (by omega) (Nat.lt_of_le_of_lt (Nat.sub_le _ _) hm) ho' (by omega) (by omega) hy
      exact ⟨by omega, by omega⟩
/-! the search -/
def yl_SK (E C : Nat → Int → Int) (S : List (List Nat)) (e c l l' : Int) : Prop := l' ≤ l ∧ (∀ o, o ∈ S → ∀ x, yl_oc E C o e = some x → l' ≤ c + x) ∧ (l' = l ∨ ∃ o x, o ∈ S ∧ yl_oc E C o e = some x ∧ l' = c + x)
def yl_SL (E C : Nat → Int → Int) (k m : Nat) (e c l l' : Int) (n : Nat) : Prop := l' ≤ l ∧ (∀ s o', s < n → Nat.testBit m s = true → o' ∈ yl_ap k (m - 2 ^ s) → ∀ x, yl_oc E C (s :: o') e = some x → l' ≤ c + x) ∧ (l' = l ∨ ∃ o x, o ∈ yl_ap (k + 1) m ∧ yl_oc E C o e = some x ∧ l' = c + x)
theorem yl_SL_0 {E C : Nat → Int → Int} {k m : Nat} {e c l : Int} : yl_SL E C k m e c l l 0 := ⟨Int.le_refl _, fun s o' hs => absurd hs (by omega), Or.inl rfl⟩
theorem yl_SL_skip {E C : Nat → Int → Int} {k m n : Nat} {e c l l' : Int} (h : yl_SL E C k m e c l l' n) (hb : ¬ Nat.testBit m n = true) : yl_SL E C k m e c l l' (n + 1) := ⟨h.1, fun s o' hs b ho x hx => by
  by_cases q : s = n
  · subst q; exact absurd b hb
  · exact h.2.1 s o' (by omega) b ho x hx, h.2.2⟩
theorem yl_SL_none {E C : Nat → Int → Int} {k m n : Nat} {e c l l' : Int} (h : yl_SL E C k m e c l l' n) (hb : E n e < 0) : yl_SL E C k m e c l l' (n + 1) := ⟨h.1, fun s o' hs b ho x hx => by
  by_cases q : s = n
  · subst q; rw [yl_oc_n hb] at hx; cases hx
  · exact h.2.1 s o' (by omega) b ho x hx, h.2.2⟩
theorem yl_SL_cut {E C : Nat → Int → Int} {k m n : Nat} {e c l l' : Int} (h : yl_SL E C k m e c l l' n) (hc : l' ≤ c + C n (E n e)) (hp : ∀ o', o' ∈ yl_ap k (m - 2 ^ n) → ∀ y, yl_oc E C o' (E n e) = some y → 0 ≤ y) : yl_SL E C k m e c l l' (n + 1) := ⟨h.1, fun s o' hs b ho x hx => by
  by_cases q : s = n
  · subst q
    obtain ⟨_, y, hy, ex⟩ := yl_oc_s hx
    have := hp o' ho y hy
    omega
  · exact h.2.1 s o' (by omega) b ho x hx, h.2.2⟩
theorem yl_SL_rec {E C : Nat → Int → Int} {k m n : Nat} {e c l l' l2 : Int} (h : yl_SL E C k m e c l l' n) (hm : ¬ m = 0) (hn : n < 6) (hb : Nat.testBit m n = true) (hE : ¬ E n e < 0) (hs : yl_SK E C (yl_ap k (m - 2 ^ n)) (E n e) (c + C n (E n e)) l' l2) : yl_SL E C k m e c l l2 (n + 1) := by
  obtain ⟨k1, k2, k3⟩ := hs
  obtain ⟨g1, g2, g3⟩ := h
  refine ⟨by omega, fun s o' hs b ho x hx => ?_, ?_⟩
  · by_cases q : s = n
    · subst q
      obtain ⟨_, y, hy, ex⟩ := yl_oc_s hx
      have := k2 o' ho y hy
      omega
    · have := g2 s o' (by omega) b ho x hx
      omega
  · rcases k3 with k3 | ⟨o, x, ho, hx, e1⟩
    · rw [k3]; exact g3
    · exact Or.inr ⟨n :: o, C n (E n e) + x, (yl_ap_mem hm).mpr ⟨n, o, hn, hb, ho, rfl⟩, yl_oc_c hE hx, by omega⟩
theorem yl_SL_end {E C : Nat → Int → Int} {k m n cn : Nat} {e c l l' : Int} (h : yl_SL E C k m e c l l' n) (hm : ¬ m = 0) (hc : m < 2 ^ cn) (hn : cn ≤ n) : yl_SK E C (yl_ap (k + 1) m) e c l l' := ⟨h.1, fun o ho x hx => by
  obtain ⟨s, o', hs, hb, ho', rfl⟩ := (yl_ap_mem hm).mp ho
  have := yl_tb hb hc
  exact h.2.1 s o' (by omega) hb ho' x hx, h.2.2⟩
theorem yl_SK_0 {E C : Nat → Int → Int} {k : Nat} {e c l : Int} (h : c ≤ l) : yl_SK E C (yl_ap k 0) e c l c := by
  rw [yl_ap0]
  refine ⟨h, fun o ho x hx => ?_, Or.inr ⟨[], 0, List.mem_cons_self, rfl, by omega⟩⟩
  have e0 : o = [] := by
    cases ho with
    | head => rfl
    | tail _ z => cases z
  subst e0
  have e1 : (0 : Int) = x := Option.some.inj hx
  omega
theorem yl_SK_n {E C : Nat → Int → Int} {m : Nat} {e c l : Int} (hm : ¬ m = 0) : yl_SK E C (yl_ap 0 m) e c l l := by
  rw [yl_ap_n hm]
  exact ⟨Int.le_refl _, fun o ho => (by cases ho), Or.inl rfl⟩
/-! rows -/
def yl_at : List Nat → Nat → Nat
  | [], _ => 0
  | a :: _, 0 => a
  | _ :: t, n + 1 => yl_at t n
def yl_st : List Nat → Nat → Nat → List Nat
  | [], _, _ => []
  | _ :: t, 0, v => v :: t
  | a :: t, n + 1, v => a :: yl_st t n v
theorem yl_st_len : ∀ (w : List Nat) (n v : Nat), (yl_st w n v).length = w.length
  | [], _, _ => rfl
  | _ :: t, 0, v => rfl
  | a :: t, n + 1, v => congrArg (· + 1) (yl_st_len t n v)
theorem yl_at_st : ∀ (w : List Nat) (n v z : Nat), n < w.length → yl_at (yl_st w n v) z = if z = n then v else yl_at w z
  | [], n, _, _, h => absurd h (Nat.not_lt_zero n)
  | a :: t, 0, v, 0, _ => rfl
  | a :: t, 0, v, z + 1, _ => by rw [if_neg (by omega)]; rfl
  | a :: t, n + 1, v, 0, _ => by rw [if_neg (by omega)]; rfl
  | a :: t, n + 1, v, z + 1, h => by
    show yl_at (yl_st t n v) z = if z + 1 = n + 1 then v else yl_at t z
    have h2 : n < t.length := Nat.lt_of_succ_lt_succ h
    rw [yl_at_st t n v z h2]
    by_cases c : z = n
    · rw [if_pos c, if_pos (by omega)]
    · rw [if_neg c, if_neg (by omega)]
theorem yl_at_mem : ∀ (w : List Nat) (z : Nat), z < w.length → yl_at w z ∈ w
  | [], z, h => absurd h (Nat.not_lt_zero z)
  | a :: t, 0, _ => List.mem_cons_self
  | a :: t, z + 1, h => List.mem_cons_of_mem _ (yl_at_mem t z (Nat.lt_of_succ_lt_succ h))
theorem yl_at_app : ∀ (w : List Nat) (x z : Nat), z < w.length → yl_at (w ++ [x]) z = yl_at w z
  | [], _, z, h => absurd h (Nat.not_lt_zero z)
  | a :: t, x, 0, _ => rfl
  | a :: t, x, z + 1, h => yl_at_app t x z (Nat.lt_of_succ_lt_succ h)
theorem yl_at_app2 : ∀ (w : List Nat) (x : Nat), yl_at (w ++ [x]) w.length = x
  | [], _ => rfl
  | a :: t, x => yl_at_app2 t x
theorem yl_drop : ∀ (w : List Nat) (i : Nat), i < w.length → w.drop i = yl_at w i :: w.drop (i + 1)
  | [], i, h => absurd h (Nat.not_lt_zero i)
  | a :: t, 0, _ => rfl
  | a :: t, i + 1, h => yl_drop t i (Nat.lt_of_succ_lt_succ h)
def yl_sw (w : List Nat) (a b : Nat) : List Nat := yl_st (yl_st w a (yl_at w b)) b (yl_at w a)
def yl_fi (w : List Nat) : Nat → Option Nat
  | 0 => none
  | k + 1 => if yl_at w (k + 1) < yl_at w k then yl_fi w k else some k
def yl_fj (w : List Nat) (i : Nat) : Nat → Nat
  | 0 => 0
  | k + 1 => if yl_at w (k + 1) < yl_at w i then yl_fj w i k else k + 1
def yl_rv : Nat → Nat → Nat → List Nat → List Nat
  | 0, _, _, w => w
  | k + 1, a, b, w => if a < b then yl_rv k (a + 1) (b - 1) (yl_sw w a b) else w
def yl_nx (w : List Nat) : Option (List Nat) := match yl_fi w (w.length - 1) with
  | none => none
  | some i => some (yl_rv 6 (i + 1) (w.length - 1) (yl_sw w i (yl_fj w i (w.length - 1))))
def yl_bu (m : Nat) : Nat → List Nat
  | 0 => []
  | x + 1 => if Nat.testBit m x = true then yl_bu m x ++ [x] else yl_bu m x
theorem yl_bu_len (m : Nat) : ∀ x : Nat, (yl_bu m x).length ≤ x
  | 0 => Nat.le_refl _
  | x + 1 => by
    have ih := yl_bu_len m x
    show (if Nat.testBit m x = true then yl_bu m x ++ [x] else yl_bu m x).length ≤ x + 1
    by_cases c : Nat.testBit m x = true
    · rw [if_pos c, List.length_append]
      show (yl_bu m x).length + 1 ≤ x + 1
      omega
    · rw [if_neg c]; omega
def yl_chn : List (List Nat) → Bool
  | [] => true
  | w :: t => (match t with
    | [] => decide (yl_nx w = none)
    | w' :: _ => decide (yl_nx w = some w')) && yl_chn t
set_option maxRecDepth 100000 in
set_option maxHeartbeats 4000000 in
theorem yl_chk : ∀ m : Nat, m < 64 → ¬ m = 0 → yl_chn (yl_ap 6 m) = true ∧ (yl_ap 6 m).head? = some (yl_bu m 6) ∧ (yl_ap 6 m).length ≤ 720 ∧ (yl_ap 6 m).all (fun w => decide (w.length = (yl_bu m 6).length) && w.all (fun v => decide (v < 6))) = true := by decide +kernel
theorem yl_bu6 : ∀ c : Nat, c < 7 → ∀ m : Nat, m < 64 → m < 2 ^ c → yl_bu m c = yl_bu m 6 := by decide +kernel
theorem yl_bit : ∀ m : Nat, m < 64 → ∀ s : Nat, s < 6 → (Nat.testBit m s = true ↔ (nI m >>> (nI s &&& 31) &&& 1) = 1) ∧ (¬ Nat.testBit m s = true ↔ (nI m >>> (nI s &&& 31) &&& 1) = 0) ∧ (Nat.testBit m s = true → nI m &&& ((1 : Int32) <<< (nI s &&& 31) ^^^ -1) = nI (m - 2 ^ s)) := by decide +kernel
theorem yl_top : ∀ c : Nat, c < 7 → ((1 : Int32) <<< (nI c &&& 31) - 1).toInt = 2 ^ c - 1 := by decide +kernel
/-! the least of the orders gone through -/
def yl_LE (E C : Nat → Int → Int) (S : List (List Nat)) (l : Int) : Prop := (∀ o, o ∈ S → ∀ x, yl_oc E C o (-1) = some x → 0 ≤ l ∧ l ≤ x) ∧ (l = -1 ∨ ∃ o, o ∈ S ∧ yl_oc E C o (-1) = some l ∧ 0 ≤ l)
theorem yl_LE_0 {E C : Nat → Int → Int} : yl_LE E C [] (-1) := ⟨fun o ho => (by cases ho), Or.inl rfl⟩
theorem yl_LE_n {E C : Nat → Int → Int} {S : List (List Nat)} {l : Int} {w : List Nat} (h : yl_LE E C S l) (hw : yl_oc E C w (-1) = none) : yl_LE E C (S ++ [w]) l := by
  refine ⟨fun o ho x hx => ?_, ?_⟩
  · rcases List.mem_append.mp ho with ho | ho
    · exact h.1 o ho x hx
    · have e0 : o = w := by
        cases ho with
        | head => rfl
        | tail _ z => cases z
      subst e0
      rw [hw] at hx; cases hx
  · rcases h.2 with h2 | ⟨o, ho, hx⟩
    · exact Or.inl h2
    · exact Or.inr ⟨o, List.mem_append_left _ ho, hx⟩
theorem yl_LE_k {E C : Nat → Int → Int} {S : List (List Nat)} {l y : Int} {w : List Nat} (h : yl_LE E C S l) (hw : yl_oc E C w (-1) = some y) (h0 : 0 ≤ l) (hl : l ≤ y) : yl_LE E C (S ++ [w]) l := by
  refine ⟨fun o ho x hx => ?_, ?_⟩
  · rcases List.mem_append.mp ho with ho | ho
    · exact h.1 o ho x hx
    · have e0 : o = w := by
        cases ho with
        | head => rfl
        | tail _ z => cases z
      subst e0
      rw [hw] at hx
      have := Option.some.inj hx
      exact ⟨h0, by omega⟩
  · rcases h.2 with h2 | ⟨o, ho, hx⟩
    · omega
    · exact Or.inr ⟨o, List.mem_append_left _ ho, hx⟩
theorem yl_LE_t {E C : Nat → Int → Int} {S : List (List Nat)} {l y : Int} {w : List Nat} (h : yl_LE E C S l) (hw : yl_oc E C w (-1) = some y) (h0 : 0 ≤ y) (hl : l < 0 ∨ y < l) : yl_LE E C (S ++ [w]) y := by
  refine ⟨fun o ho x hx => ?_, Or.inr ⟨w, List.mem_append_right _ List.mem_cons_self, hw, h0⟩⟩
  rcases List.mem_append.mp ho with ho | ho
  · have := h.1 o ho x hx
    exact ⟨h0, by omega⟩
  · have e0 : o = w := by
      cases ho with
      | head => rfl
      | tail _ z => cases z
    subst e0
    rw [hw] at hx
    have := Option.some.inj hx
    exact ⟨h0, by omega⟩
theorem yl_same {E C : Nat → Int → Int} {c m : Nat} {l l' : Int} {r1 r2 : Int32} (h : yl_bd E C c) (hm : m < 2 ^ c) (h1 : yl_SK E C (yl_ap 6 m) (-1) 0 1000000000 l') (h2 : yl_LE E C (yl_ap 6 m) l) (e1 : r1.toInt = if l' = 1000000000 then -2 else l') (e2 : r2.toInt = if l < 0 then -2 else l) : r1 = r2 := by
  have B : ∀ o x, o ∈ yl_ap 6 m → yl_oc E C o (-1) = some x → 0 ≤ x ∧ x ≤ 72036000 := fun o x ho hx => by
    have := yl_oc_b h 6 m 0 o (-1) x rfl hm ho (by omega) (by omega) hx
    exact ⟨this.1, by omega⟩
  rw [mi_eq, e1, e2]
  obtain ⟨a1, a2, a3⟩ := h1
  rcases a3 with a3 | ⟨o, x, ho, hx, ex⟩
  · rw [if_pos a3]
    rcases h2.2 with b | ⟨o, ho, hx, hl⟩
    · rw [if_pos (by omega)]
    · have := B o l ho hx
      have := a2 o ho l hx
      omega
  · have b1 := B o x ho hx
    have b2 := h2.1 o ho x hx
    rw [if_neg (by omega), if_neg (by omega)]
    rcases h2.2 with b | ⟨o2, ho2, hx2, hl⟩
    · omega
    · have := a2 o2 ho2 l hx2
      omega
