def rg (x : Int32) (a b : Int) : Prop := a ≤ x.toInt ∧ x.toInt ≤ b
theorem mi_add {a b : Int32} (h1 : -2147483648 ≤ a.toInt + b.toInt) (h2 : a.toInt + b.toInt ≤ 2147483647) : (a + b).toInt = a.toInt + b.toInt := by
  rw [Int32.toInt_add]
  exact Int.bmod_eq_of_le (by omega) (by omega)
theorem mi_sub {a b : Int32} (h1 : -2147483648 ≤ a.toInt - b.toInt) (h2 : a.toInt - b.toInt ≤ 2147483647) : (a - b).toInt = a.toInt - b.toInt := by
  rw [Int32.toInt_sub]
  exact Int.bmod_eq_of_le (by omega) (by omega)
theorem mi_mul {a b : Int32} (h1 : -2147483648 ≤ a.toInt * b.toInt) (h2 : a.toInt * b.toInt ≤ 2147483647) : (a * b).toInt = a.toInt * b.toInt := by
  rw [Int32.toInt_mul]
  exact Int.bmod_eq_of_le (by omega) (by omega)
theorem mi_max (x : Int32) : x.toInt ≤ 2147483647 := by have := Int32.toInt_lt x; omega
theorem mi_min (x : Int32) : -2147483648 ≤ x.toInt := Int32.le_toInt x
theorem mi_inc {x : Int32} {n : Int} (h : x.toInt < n) (hn : n ≤ 2147483647) : (x + 1).toInt = x.toInt + 1 := by
  have e : (1 : Int32).toInt = 1 := by decide
  have := mi_min x
  rw [mi_add (by omega) (by omega), e]
theorem mi_incl {x y : Int32} (h : x.toInt < y.toInt) : (x + 1).toInt = x.toInt + 1 := mi_inc h (mi_max y)
theorem mi_cl {x : Int32} (h : 0 ≤ x.toInt) : (x.toNatClampNeg : Int) = x.toInt := by
  obtain ⟨j, hj, rfl⟩ := nI_of (x := x) (by simp only [mi_lt]; have := mi_l; omega)
  rw [nI_toInt hj, nI_clamp hj]
/-- only these cells may change -/
def mg_fr (S : List Nat) (I I' : mv_I) : Prop := ∀ c, S.elem c = false → I' c = I c
theorem mg_fr.rf {S : List Nat} {I : mv_I} : mg_fr S I I := fun _ _ => rfl
theorem mg_fr.up {S : List Nat} {I I' : mv_I} (h : mg_fr S I I') {c : Nat} {f : Nat → Int32} (hc : S.elem c = true) : mg_fr S I (va_up I' c f) := fun k hk => by
  rw [va_up_ne _ _ (by intro e; subst e; rw [hc] at hk; cases hk)]
  exact h k hk
theorem mg_fr.tr {S : List Nat} {I I' I'' : mv_I} (h : mg_fr S I I') (h2 : mg_fr S I' I'') : mg_fr S I I'' := fun k hk => (h2 k hk).trans (h k hk)
theorem mg_fr.mono {S S' : List Nat} {I I' : mv_I} (h : mg_fr S' I I') (hs : S'.all (fun c => S.elem c) = true) : mg_fr S I I' := fun k hk => h k (by
  cases hq : S'.elem k with
  | false => rfl
  | true =>
    have h1 := List.all_eq_true.mp hs k (List.elem_iff.mp hq)
    rw [hk] at h1
    cases h1)
/-- only these cells, and these ints of cells, may change -/
def mg_f2 (S : List Nat) (T : List (Nat × Nat)) (I I' : mv_I) : Prop := ∀ c j, S.elem c = false → T.elem (c, j) = false → I' c j = I c j
theorem mg_f2.rf {S : List Nat} {T : List (Nat × Nat)} {I : mv_I} : mg_f2 S T I I := fun _ _ _ _ => rfl
theorem mg_f2.up {S : List Nat} {T : List (Nat × Nat)} {I I' : mv_I} (h : mg_f2 S T I I') {c : Nat} {f : Nat → Int32} (hc : S.elem c = true) : mg_f2 S T I (va_up I' c f) := fun k j hk hj => by
  rw [va_up_ne _ _ (by intro e; subst e; rw [hc] at hk; cases hk)]
  exact h k j hk hj
theorem mg_f2.uf {S : List Nat} {T : List (Nat × Nat)} {I I' : mv_I} (h : mg_f2 S T I I') {c i : Nat} {v : Int32} (hc : T.elem (c, i) = true) : mg_f2 S T I (va_up I' c (upd (I' c) i v)) := fun k j hk hj => by
  by_cases e : k = c
  · subst e
    rw [va_up_self]
    unfold upd
    rw [if_neg (by intro e; subst e; rw [hc] at hj; cases hj)]
    exact h k j hk hj
  · rw [va_up_ne _ _ e]
    exact h k j hk hj
theorem mg_f2.tr {S : List Nat} {T : List (Nat × Nat)} {I I' I'' : mv_I} (h : mg_f2 S T I I') (h2 : mg_f2 S T I' I'') : mg_f2 S T I I'' := fun k j hk hj => (h2 k j hk hj).trans (h k j hk hj)
theorem mg_f2.of {S : List Nat} {I I' : mv_I} (h : mg_fr S I I') : mg_f2 S [] I I' := fun k j hk _ => congrFun (h k hk) j
theorem mg_f2.mono {S S' : List Nat} {T T' : List (Nat × Nat)} {I I' : mv_I} (h : mg_f2 S' T' I I') (hs : S'.all (fun c => S.elem c) = true) (ht : T'.all (fun c => T.elem c) = true) : mg_f2 S T I I' := fun k j hk hj => h k j (by
  cases hq : S'.elem k with
  | false => rfl
  | true =>
    have h1 := List.all_eq_true.mp hs k (List.elem_iff.mp hq)
    rw [hk] at h1
    cases h1) (by
  cases hq : T'.elem (k, j) with
  | false => rfl
  | true =>
    have h1 := List.all_eq_true.mp ht (k, j) (List.elem_iff.mp hq)
    rw [hj] at h1
    cases h1)
set_option maxHeartbeats 1000000 in
theorem l_isOpen {d : Nat} {w a n : Int32} {I : mv_I} {J : mv_J} {Q : mv_Q} (hn : rg n 0 100) (h : ∀ r : Int32, (r = 0 ∨ r = 1) → Q (some (.inl r)) I J) : ∀ (k fu : Nat) (o la x : Int32), 0 ≤ x.toInt → (o = 0 ∨ o = 1) → (n.toInt - x.toInt).toNat < k → 80 * k ≤ fu → mv_wp (mv_wpM mv_tab mv_sh d) mv_sh none tbX3_isOpen flX3 csX3 2 (fun _ _ _ _ _ => False) Q fu 9 [some (.inr (.inr 1)), some (.inl w), some (.inl a), some (.inl n), some (.inl o), some (.inl la), some (.inl x)] [] I J := by
  intro k
  induction k with
  | zero => intro fu o la x h0 h1 h2 hf; omega
  | succ k ih =>
    intro fu o la x h0 h1 h2 hf
    obtain ⟨fu, rfl⟩ : ∃ z, fu = z + 80 := ⟨fu - 80, by omega⟩
    obtain ⟨hn0, hn1⟩ := hn
    refine And.intro (fun q => ?_) (fun q => ?_)
    · exact And.intro h1 (h _ h1)
    · have qx : x.toInt < n.toInt := by (try simp only [mi_le, mi_lt, mi_eq] at *); have := mi_l; omega
      have e1 := mi_incl qx
      have B : vp_in x 100 := vp_in_iff.mpr ⟨by omega, by omega⟩
      repeat' (first | refine And.intro B ?_ | refine And.intro (fun _ => ?_) (fun _ => ?_) | fail)
      all_goals refine And.intro ?_ trivial
      all_goals exact ih _ _ _ _ (by omega) (by first | exact h1 | exact Or.inl rfl | exact Or.inr rfl) (by omega) (by omega)
set_option maxHeartbeats 1000000 in
theorem s_isOpen {d : Nat} (hd : 1 ≤ d) (w a n : Int32) {I : mv_I} {J : mv_J} {Q : mv_Q} (hn : rg n 0 100) (h : ∀ r : Int32, (r = 0 ∨ r = 1) → Q (some (.inl r)) I J) : mv_wpM mv_tab mv_sh d 28 [.inr (.inr 1), .inl w, .inl a, .inl n] I J Q := by
  obtain ⟨d, rfl⟩ : ∃ e, d = e + 1 := ⟨d - 1, by omega⟩
  refine (show ∃ fu9, mv_wp (mv_wpM mv_tab mv_sh d) mv_sh none tbX3_isOpen flX3 csX3 2 (fun _ _ _ _ _ => False) Q fu9 0 [some (.inr (.inr 1)), some (.inl w), some (.inl a), some (.inl n), none, none, none] [] I J from ?_)
  refine ⟨9000, ?_⟩
  refine And.intro ?_ trivial
  exact l_isOpen hn h 101 _ _ _ _ (by decide) (Or.inr rfl) (by obtain ⟨hn0, hn1⟩ := hn; have := mi_l; omega) (Nat.le_of_ble_eq_true rfl)

set_option maxHeartbeats 1000000 in
theorem l_lentTo {d : Nat} {w a n : Int32} {I : mv_I} {J : mv_J} {Q : mv_Q} (hn : rg n 0 100) (h : ∀ r : Int32, Q (some (.inl r)) I J) : ∀ (k fu : Nat) (m x : Int32), 0 ≤ x.toInt → (n.toInt - x.toInt).toNat < k → 80 * k ≤ fu → mv_wp (mv_wpM mv_tab mv_sh d) mv_sh none tbX3_lentTo flX3 csX3 1 (fun _ _ _ _ _ => False) Q fu 6 [some (.inr (.inr 1)), some (.inl w), some (.inl a), some (.inl n), some (.inl m), some (.inl x)] [] I J := by
  intro k
  induction k with
  | zero => intro fu m x h0 h1 hf; omega
  | succ k ih =>
    intro fu m x h0 h1 hf
    obtain ⟨fu, rfl⟩ : ∃ z, fu = z + 80 := ⟨fu - 80, by omega⟩
    obtain ⟨hn0, hn1⟩ := hn
    refine And.intro (fun q => ?_) (fun q => ?_)
    · exact h _
    · have qx : x.toInt < n.toInt := by (try simp only [mi_le, mi_lt, mi_eq] at *); have := mi_l; omega
      have e1 := mi_incl qx
      have B : vp_in x 100 := vp_in_iff.mpr ⟨by omega, by omega⟩
      repeat' (first | refine And.intro B ?_ | refine And.intro (fun _ => ?_) (fun _ => ?_) | fail)
      all_goals refine And.intro ?_ trivial
      all_goals exact ih _ _ _ (by omega) (by omega) (by omega)
set_option maxHeartbeats 1000000 in
theorem s_lentTo {d : Nat} (hd : 1 ≤ d) (w a n : Int32) {I : mv_I} {J : mv_J} {Q : mv_Q} (hn : rg n 0 100) (h : ∀ r : Int32, Q (some (.inl r)) I J) : mv_wpM mv_tab mv_sh d 29 [.inr (.inr 1), .inl w, .inl a, .inl n] I J Q := by
  obtain ⟨d, rfl⟩ : ∃ e, d = e + 1 := ⟨d - 1, by omega⟩
  refine (show ∃ fu9, mv_wp (mv_wpM mv_tab mv_sh d) mv_sh none tbX3_lentTo flX3 csX3 1 (fun _ _ _ _ _ => False) Q fu9 0 [some (.inr (.inr 1)), some (.inl w), some (.inl a), some (.inl n), none, none] [] I J from ?_)
  refine ⟨9000, ?_⟩
  refine And.intro ?_ trivial
  exact l_lentTo hn h 101 _ _ _ (by decide) (by obtain ⟨hn0, hn1⟩ := hn; have := mi_l; omega) (Nat.le_of_ble_eq_true rfl)

set_option maxHeartbeats 1000000 in
theorem l_partsAmong {d : Nat} {I : mv_I} {J : mv_J} {Q : mv_Q} (hw : rg (I 1 2) 0 8) (h : ∀ r : Int32, Q (some (.inl r)) I J) : ∀ (k fu : Nat) (m x : Int32), 0 ≤ x.toInt → ((I 1 2).toInt - x.toInt).toNat < k → 40 * k ≤ fu → mv_wp (mv_wpM mv_tab mv_sh d) mv_sh none tbX3_partsAmong flX3 csX3 1 (fun _ _ _ _ _ => False) Q fu 4 [some (.inr (.inr 1)), some (.inl m), some (.inl x)] [] I J := by
  intro k
  induction k with
  | zero => intro fu m x h0 h1 hf; omega
  | succ k ih =>
    intro fu m x h0 h1 hf
    obtain ⟨fu, rfl⟩ : ∃ z, fu = z + 40 := ⟨fu - 40, by omega⟩
    obtain ⟨hn0, hn1⟩ := hw
    refine And.intro (fun q => ?_) (fun q => ?_)
    · exact h _
    · have qx : x.toInt < (I 1 2).toInt := by (try simp only [mi_le, mi_lt, mi_eq] at *); have := mi_l; omega
      have e1 := mi_incl qx
      have B : vp_in x 8 := vp_in_iff.mpr ⟨by omega, by omega⟩
      repeat' (first | refine And.intro B ?_ | refine And.intro (fun _ => ?_) (fun _ => ?_) | fail)
      all_goals refine And.intro ?_ trivial
      all_goals exact ih _ _ _ (by omega) (by omega) (by omega)
set_option maxHeartbeats 1000000 in
theorem s_partsAmong {d : Nat} (hd : 1 ≤ d) {I : mv_I} {J : mv_J} {Q : mv_Q} (hw : rg (I 1 2) 0 8) (h : ∀ r : Int32, Q (some (.inl r)) I J) : mv_wpM mv_tab mv_sh d 25 [.inr (.inr 1)] I J Q := by
  obtain ⟨d, rfl⟩ : ∃ e, d = e + 1 := ⟨d - 1, by omega⟩
  refine (show ∃ fu9, mv_wp (mv_wpM mv_tab mv_sh d) mv_sh none tbX3_partsAmong flX3 csX3 1 (fun _ _ _ _ _ => False) Q fu9 0 [some (.inr (.inr 1)), none, none] [] I J from ?_)
  refine ⟨500, ?_⟩
  refine And.intro ?_ trivial
  exact l_partsAmong hw h 9 _ _ _ (by decide) (by obtain ⟨hn0, hn1⟩ := hw; have := mi_l; omega) (Nat.le_of_ble_eq_true rfl)

set_option maxHeartbeats 1000000 in
theorem l_raise2 {d : Nat} {ov x : Int32} {J : mv_J} {Q : mv_Q} {F : Nat} {I : mv_I} (hw : rg (I 1 2) 0 8) (K : ∀ (fu : Nat) (g y : Int32) (I' : mv_I), mg_fr [20, 21] I I' → F ≤ fu → mv_wp (mv_wpM mv_tab mv_sh d) mv_sh none tbX3_raiseGreatestRests flX3 csX3 0 (fun _ _ _ _ _ => False) Q fu 2 [some (.inr (.inr 1)), some (.inl ov), some (.inl (x + 1)), some (.inl g), some (.inl y)] [] I' J) : ∀ (k fu : Nat) (g y : Int32), 0 ≤ y.toInt → rg g 0 7 → ((I 1 2).toInt - y.toInt).toNat < k → 40 * k + F ≤ fu → mv_wp (mv_wpM mv_tab mv_sh d) mv_sh none tbX3_raiseGreatestRests flX3 csX3 0 (fun _ _ _ _ _ => False) Q fu 12 [some (.inr (.inr 1)), some (.inl ov), some (.inl x), some (.inl g), some (.inl y)] [] I J := by
  intro k
  induction k with
  | zero => intro fu g y h0 h1 h2 hf; omega
  | succ k ih =>
    intro fu g y h0 h1 h2 hf
    obtain ⟨fu, rfl⟩ : ∃ z, fu = z + 40 := ⟨fu - 40, by omega⟩
    obtain ⟨hn0, hn1⟩ := hw
    have Bg : vp_in g 8 := vp_in_iff.mpr ⟨h1.1, by have := h1.2; omega⟩
    refine And.intro (fun q => ?_) (fun q => ?_)
    · refine And.intro Bg ?_
      refine And.intro Bg ?_
      refine And.intro Bg ?_
      refine And.intro ?_ trivial
      exact K _ _ _ _ (by repeat (first | exact mg_fr.rf | assumption | refine mg_fr.up ?_ rfl)) (by omega)
    · have qx : y.toInt < (I 1 2).toInt := by (try simp only [mi_le, mi_lt, mi_eq] at *); have := mi_l; omega
      have e1 := mi_incl qx
      have B : vp_in y 8 := vp_in_iff.mpr ⟨by omega, by omega⟩
      refine And.intro B ?_
      refine And.intro Bg ?_
      refine And.intro (fun _ => ?_) (fun _ => ?_)
      · refine And.intro ?_ trivial
        exact ih _ _ _ (by omega) h1 (by omega) (by omega)
      · refine And.intro ?_ trivial
        exact ih _ _ _ (by omega) ⟨by omega, by omega⟩ (by omega) (by omega)
set_option maxHeartbeats 1000000 in
theorem l_raise {d : Nat} {ov : Int32} {J : mv_J} {Q : mv_Q} {I0 : mv_I} (hw : rg (I0 1 2) 0 8) (h : ∀ I', mg_fr [20, 21] I0 I' → Q none I' J) : ∀ (k fu : Nat) (x : Int32) (g y : Option mv_V) (I : mv_I), 0 ≤ x.toInt → mg_fr [20, 21] I0 I → (ov.toInt - x.toInt).toNat < k → 500 * k ≤ fu → mv_wp (mv_wpM mv_tab mv_sh d) mv_sh none tbX3_raiseGreatestRests flX3 csX3 0 (fun _ _ _ _ _ => False) Q fu 2 [some (.inr (.inr 1)), some (.inl ov), some (.inl x), g, y] [] I J := by
  intro k
  induction k with
  | zero => intro fu x g y I h0 h1 h2 hf; omega
  | succ k ih =>
    intro fu x g y I h0 h1 h2 hf
    obtain ⟨fu, rfl⟩ : ∃ z, fu = z + 500 := ⟨fu - 500, by omega⟩
    refine And.intro (fun q => ?_) (fun q => ?_)
    · exact h _ h1
    · have qx : x.toInt < ov.toInt := by (try simp only [mi_le, mi_lt, mi_eq] at *); have := mi_l; omega
      have e1 := mi_incl qx
      have hw2 : rg (I 1 2) 0 8 := by rw [h1 1 rfl]; exact hw
      have hw3 := hw2
      obtain ⟨hn0, hn1⟩ := hw3
      refine And.intro ?_ trivial
      exact l_raise2 (F := 500 * k) hw2 (fun fu2 g2 y2 I2 f2 hf2 => ih _ _ _ _ _ (by omega) (h1.tr f2) (by omega) hf2) 9 _ _ _ (by decide) ⟨by decide, by decide⟩ (by have := mi_l; omega) (by omega)
set_option maxHeartbeats 1000000 in
theorem s_raise {d : Nat} (hd : 1 ≤ d) (ov : Int32) {I : mv_I} {J : mv_J} {Q : mv_Q} (hw : rg (I 1 2) 0 8) (h : ∀ I', mg_fr [20, 21] I I' → Q none I' J) : mv_wpM mv_tab mv_sh d 26 [.inr (.inr 1), .inl ov] I J Q := by
  obtain ⟨d, rfl⟩ : ∃ e, d = e + 1 := ⟨d - 1, by omega⟩
  refine (show ∃ fu9, mv_wp (mv_wpM mv_tab mv_sh d) mv_sh none tbX3_raiseGreatestRests flX3 csX3 0 (fun _ _ _ _ _ => False) Q fu9 0 [some (.inr (.inr 1)), some (.inl ov), none, none, none] [] I J from ?_)
  refine ⟨(500 * (ov.toInt.toNat + 1) + 2), ?_⟩
  refine And.intro ?_ trivial
  exact l_raise hw h (ov.toInt.toNat + 1) _ _ _ _ _ (by decide) mg_fr.rf (by have := mi_l; omega) (Nat.le_refl _)

set_option maxHeartbeats 1000000 in
theorem l_partAmong {d : Nat} (hd : 1 ≤ d) {n p : Int32} {J : mv_J} {Q : mv_Q} {I0 : mv_I} (hp : ¬ p = 0) (hw : rg (I0 1 2) 0 8) (h : ∀ I', mg_fr [20, 21] I0 I' → Q none I' J) : ∀ (k fu : Nat) (ov x : Int32) (c : Option mv_V) (I : mv_I), 0 ≤ x.toInt → mg_fr [20, 21] I0 I → ((I0 1 2).toInt - x.toInt).toNat < k → 100 * k ≤ fu → mv_wp (mv_wpM mv_tab mv_sh d) mv_sh none tbX3_partAmong flX3 csX3 0 (fun _ _ _ _ _ => False) Q fu 15 [some (.inr (.inr 1)), some (.inl n), some (.inl p), some (.inl ov), some (.inl x), c] [] I J := by
  intro k
  induction k with
  | zero => intro fu ov x c I h0 h1 h2 hf; omega
  | succ k ih =>
    intro fu ov x c I h0 h1 h2 hf
    obtain ⟨fu, rfl⟩ : ∃ z, fu = z + 100 := ⟨fu - 100, by omega⟩
    have ew : I 1 = I0 1 := h1 1 rfl
    have hw2 : rg (I 1 2) 0 8 := by rw [ew]; exact hw
    obtain ⟨hn0, hn1⟩ := id hw
    refine And.intro (fun q => ?_) (fun q => ?_)
    · exact s_raise (by omega) ov hw2 (fun I' f => h I' (h1.tr f))
    · have qx : x.toInt < (I0 1 2).toInt := by rw [ew] at q; (try simp only [mi_le, mi_lt, mi_eq] at *); have := mi_l; omega
      have e1 := mi_incl qx
      have B : vp_in x 8 := vp_in_iff.mpr ⟨by omega, by omega⟩
      refine And.intro B ?_
      refine And.intro B ?_
      refine And.intro (fun _ => ?_) (fun _ => ?_)
      · refine And.intro ?_ trivial
        exact ih _ _ _ _ _ (by omega) (by repeat (first | exact mg_fr.rf | assumption | refine mg_fr.up ?_ rfl)) (by omega) (by omega)
      · refine And.intro B ?_
        refine And.intro hp ?_
        refine And.intro B ?_
        refine And.intro hp ?_
        refine And.intro B ?_
        refine And.intro B ?_
        refine And.intro B ?_
        refine And.intro ?_ trivial
        exact ih _ _ _ _ _ (by omega) (by repeat (first | exact mg_fr.rf | assumption | refine mg_fr.up ?_ rfl)) (by omega) (by omega)
set_option maxHeartbeats 1000000 in
theorem s_partAmong {d : Nat} (hd : 2 ≤ d) (n : Int32) {I : mv_I} {J : mv_J} {Q : mv_Q} (hw : rg (I 1 2) 0 8) (h : ∀ I', mg_fr [20, 21] I I' → Q none I' J) : mv_wpM mv_tab mv_sh d 27 [.inr (.inr 1), .inl n] I J Q := by
  obtain ⟨d, rfl⟩ : ∃ e, d = e + 1 := ⟨d - 1, by omega⟩
  refine (show ∃ fu9, mv_wp (mv_wpM mv_tab mv_sh d) mv_sh none tbX3_partAmong flX3 csX3 0 (fun _ _ _ _ _ => False) Q fu9 0 [some (.inr (.inr 1)), some (.inl n), none, none, none, none] [] I J from ?_)
  refine ⟨1200, ?_⟩
  refine s_partsAmong (by omega) hw (fun p => ?_)
  refine And.intro (fun q => ?_) (fun q => ?_)
  · refine And.intro ?_ trivial
    exact l_partAmong (by omega) (by intro z; subst z; exact absurd q (by decide)) hw h 9 _ _ _ _ _ (by decide) mg_fr.rf (by obtain ⟨hn0, hn1⟩ := hw; have := mi_l; omega) (Nat.le_of_ble_eq_true rfl)
  · exact h _ mg_fr.rf

