def v_fault (l len b i n : Int32) : Int32 := if l = -1 then -11 else if b = l then (if 0 ≤ i ∧ 0 ≤ n ∧ i ≤ len - n then 0 else -13) else -12
def vput (l v : Int32) : Int32 := if l = 0 then v.toInt8.toInt32 else if l = 1 then v.toInt16.toInt32 else v
def bg (s : Nat) (l n : Int32) (I : mv_I) : mv_I := va_up (va_up (va_up I (47 + s) (fun j => if 0 ≤ j ∧ j < 60 then 0 else I (47 + s) j)) (8 + s) (upd (I (8 + s)) 1 l)) (8 + s) (upd (upd (I (8 + s)) 1 l) 2 n)
set_option maxHeartbeats 1000000 in
theorem s_isNothing8 {d : Nat} (hd : 1 ≤ d) {I : mv_I} {J : mv_J} {Q : mv_Q} (h1 : I 8 1 = -1 → Q (some (.inl 1)) I J) (h0 : ¬ I 8 1 = -1 → Q (some (.inl 0)) I J) : mv_wpM mv_tab mv_sh d 32 [.inr (.inr 8)] I J Q := by
  obtain ⟨d, rfl⟩ : ∃ e, d = e + 1 := ⟨d - 1, by omega⟩
  refine (show ∃ fu9, mv_wp (mv_wpM mv_tab mv_sh d) mv_sh none tbX5_isNothing flX5 csX5 2 (fun _ _ _ _ _ => False) Q fu9 0 [some (.inr (.inr 8))] [] I J from ?_)
  refine ⟨60, ?_⟩
  refine And.intro (fun q => ?_) (fun q => ?_)
  all_goals first | exact And.intro (by decide) (h1 q) | exact And.intro (by decide) (h0 q) | exact And.intro (by decide) (h1 (Classical.not_not.mp q))

set_option maxHeartbeats 1000000 in
theorem s_hasItems8 {d : Nat} (hd : 1 ≤ d) (a b : Int32) {I : mv_I} {J : mv_J} {Q : mv_Q} (h1 : (0 ≤ a ∧ 0 ≤ b ∧ a ≤ I 8 2 - b) → Q (some (.inl 1)) I J) (h0 : ¬ (0 ≤ a ∧ 0 ≤ b ∧ a ≤ I 8 2 - b) → Q (some (.inl 0)) I J) : mv_wpM mv_tab mv_sh d 34 [.inr (.inr 8), .inl a, .inl b] I J Q := by
  obtain ⟨d, rfl⟩ : ∃ e, d = e + 1 := ⟨d - 1, by omega⟩
  refine (show ∃ fu9, mv_wp (mv_wpM mv_tab mv_sh d) mv_sh none tbX5_hasItems flX5 csX5 2 (fun _ _ _ _ _ => False) Q fu9 0 [some (.inr (.inr 8)), some (.inl a), some (.inl b)] [] I J from ?_)
  refine ⟨60, ?_⟩
  repeat' (first | refine And.intro (fun q => ?_) (fun q => ?_) | refine And.intro (by decide) ?_ | fail)
  all_goals first | exact h1 (by (try simp only [mi_le, mi_lt, mi_eq] at *); have := mi_l; omega) | exact h0 (by (try simp only [mi_le, mi_lt, mi_eq] at *); have := mi_l; omega)

set_option maxHeartbeats 1000000 in
theorem s_faultAs8 {d : Nat} (hd : 2 ≤ d) (b i n : Int32) {I : mv_I} {J : mv_J} {Q : mv_Q} (h : Q (some (.inl (v_fault (I 8 1) (I 8 2) b i n))) I J) : mv_wpM mv_tab mv_sh d 35 [.inr (.inr 8), .inl b, .inl i, .inl n] I J Q := by
  obtain ⟨d, rfl⟩ : ∃ e, d = e + 1 := ⟨d - 1, by omega⟩
  refine (show ∃ fu9, mv_wp (mv_wpM mv_tab mv_sh d) mv_sh none tbX5_faultAs flX5 csX5 1 (fun _ _ _ _ _ => False) Q fu9 0 [some (.inr (.inr 8)), some (.inl b), some (.inl i), some (.inl n)] [] I J from ?_)
  refine ⟨60, ?_⟩
  unfold v_fault at h
  refine s_isNothing8 (by omega) (fun p => ?_) (fun p => ?_)
  · first | refine And.intro (fun z => absurd z (by decide)) (fun _ => ?_) | refine And.intro (fun _ => ?_) (fun z => absurd z (by decide))
    rw [if_pos p] at h
    exact h
  · first | refine And.intro (fun z => absurd z (by decide)) (fun _ => ?_) | refine And.intro (fun _ => ?_) (fun z => absurd z (by decide))
    rw [if_neg p] at h
    refine And.intro (fun q => ?_) (fun q => ?_)
    · rw [if_pos q] at h
      refine s_hasItems8 (by omega) _ _ (fun z => ?_) (fun z => ?_)
      · first | refine And.intro (fun z => absurd z (by decide)) (fun _ => ?_) | refine And.intro (fun _ => ?_) (fun z => absurd z (by decide))
        rw [if_pos z] at h
        exact h
      · first | refine And.intro (fun z => absurd z (by decide)) (fun _ => ?_) | refine And.intro (fun _ => ?_) (fun z => absurd z (by decide))
        rw [if_neg z] at h
        exact h
    · rw [if_neg q] at h
      exact h

set_option maxHeartbeats 1000000 in
theorem l_above8 {d : Nat} {m i n : Int32} {I : mv_I} {J : mv_J} {Q : mv_Q} (hi : 0 ≤ i.toInt) (hn : 0 ≤ n.toInt) (hs : i.toInt + n.toInt ≤ 60) (H1 : (∃ j : Nat, i.toInt ≤ j ∧ j < i.toInt + n.toInt ∧ m < I 47 j) → Q (some (.inl 1)) I J) (H0 : ¬ (∃ j : Nat, i.toInt ≤ j ∧ j < i.toInt + n.toInt ∧ m < I 47 j) → Q (some (.inl 0)) I J) : ∀ (k fu : Nat) (x : Int32), i.toInt ≤ x.toInt → x.toInt ≤ i.toInt + n.toInt → (∀ j : Nat, i.toInt ≤ j → j < x.toInt → ¬ m < I 47 j) → (i.toInt + n.toInt - x.toInt).toNat < k → 40 * k ≤ fu → mv_wp (mv_wpM mv_tab mv_sh d) mv_sh none tbX5_hasAbove flX5 csX5 2 (fun _ _ _ _ _ => False) Q fu 3 [some (.inr (.inr 8)), some (.inl m), some (.inl i), some (.inl n), some (.inl x)] [] I J := by
  intro k
  induction k with
  | zero => intro fu x h0 h1 h2 h3 hf; omega
  | succ k ih =>
    intro fu x h0 h1 h2 h3 hf
    obtain ⟨fu, rfl⟩ : ∃ z, fu = z + 40 := ⟨fu - 40, by omega⟩
    have es : (i + n).toInt = i.toInt + n.toInt := mi_add (by omega) (by omega)
    refine And.intro (fun q => ?_) (fun q => ?_)
    · have qx : (i + n).toInt ≤ x.toInt := mi_le.mp q
      refine And.intro (by decide) (H0 ?_)
      rintro ⟨j, z1, z2, z3⟩
      exact h2 j z1 (by omega) z3
    · have qx : x.toInt < i.toInt + n.toInt := by rw [mi_le, es] at q; omega
      have e1 := mi_inc qx (by omega)
      have ecl := mi_cl (x := x) (by omega)
      refine And.intro (vp_in_iff.mpr ⟨by omega, by omega⟩) ?_
      refine And.intro (fun q => ?_) (fun q => ?_)
      · refine And.intro ?_ trivial
        refine ih _ _ (by omega) (by omega) (fun j z1 z2 => ?_) (by omega) (by omega)
        by_cases z3 : (j : Int) < x.toInt
        · exact h2 j z1 z3
        · have z4 : j = x.toNatClampNeg := by omega
          subst z4
          simp only [mi_le, mi_lt] at *
          omega
      · refine And.intro (by decide) (H1 ⟨x.toNatClampNeg, by omega, by omega, ?_⟩)
        simp only [mi_le, mi_lt] at *
        omega
set_option maxHeartbeats 1000000 in
theorem s_above8 {d : Nat} (hd : 1 ≤ d) (m i n : Int32) {I : mv_I} {J : mv_J} {Q : mv_Q} (hi : 0 ≤ i.toInt) (hn : 0 ≤ n.toInt) (hs : i.toInt + n.toInt ≤ 60) (h1 : (∃ j : Nat, i.toInt ≤ j ∧ j < i.toInt + n.toInt ∧ m < I 47 j) → Q (some (.inl 1)) I J) (h0 : ¬ (∃ j : Nat, i.toInt ≤ j ∧ j < i.toInt + n.toInt ∧ m < I 47 j) → Q (some (.inl 0)) I J) : mv_wpM mv_tab mv_sh d 36 [.inr (.inr 8), .inl m, .inl i, .inl n] I J Q := by
  obtain ⟨d, rfl⟩ : ∃ e, d = e + 1 := ⟨d - 1, by omega⟩
  refine (show ∃ fu9, mv_wp (mv_wpM mv_tab mv_sh d) mv_sh none tbX5_hasAbove flX5 csX5 2 (fun _ _ _ _ _ => False) Q fu9 0 [some (.inr (.inr 8)), some (.inl m), some (.inl i), some (.inl n), none] [] I J from ?_)
  refine ⟨2600, ?_⟩
  refine And.intro ?_ trivial
  exact l_above8 hi hn hs h1 h0 61 _ _ (by omega) (by omega) (fun j z1 z2 => by omega) (by omega) (Nat.le_of_ble_eq_true rfl)

set_option maxHeartbeats 1000000 in
theorem s_put8 {d : Nat} (hd : 1 ≤ d) (i v : Int32) {I : mv_I} {J : mv_J} {Q : mv_Q} (hi : rg i 0 59) (h : Q none (va_up I 47 (upd (I 47) i.toNatClampNeg (vput (I 8 1) v))) J) : mv_wpM mv_tab mv_sh d 37 [.inr (.inr 8), .inl i, .inl v] I J Q := by
  obtain ⟨d, rfl⟩ : ∃ e, d = e + 1 := ⟨d - 1, by omega⟩
  refine (show ∃ fu9, mv_wp (mv_wpM mv_tab mv_sh d) mv_sh none tbX5_put flX5 csX5 0 (fun _ _ _ _ _ => False) Q fu9 0 [some (.inr (.inr 8)), some (.inl i), some (.inl v)] [] I J from ?_)
  refine ⟨60, ?_⟩
  have B : vp_in i 60 := vp_in_iff.mpr ⟨hi.1, by have := hi.2; omega⟩
  unfold vput at h
  refine And.intro (fun q => ?_) (fun q => ?_)
  · rw [if_neg q] at h
    refine And.intro (fun q2 => ?_) (fun q2 => ?_)
    · rw [if_neg q2] at h
      exact And.intro B h
    · rw [if_pos q2] at h
      exact And.intro B h
  · rw [if_pos q] at h
    exact And.intro B h

set_option maxHeartbeats 1000000 in
theorem s_begin8 {d : Nat} (hd : 2 ≤ d) (l n : Int32) {I : mv_I} {J : mv_J} {Q : mv_Q} (h : Q none (bg 0 l n I) J) : mv_wpM mv_tab mv_sh d 33 [.inr (.inr 8), .inl l, .inl n] I J Q := by
  obtain ⟨d, rfl⟩ : ∃ e, d = e + 1 := ⟨d - 1, by omega⟩
  refine (show ∃ fu9, mv_wp (mv_wpM mv_tab mv_sh d) mv_sh none tbX5_begin flX5 csX5 0 (fun _ _ _ _ _ => False) Q fu9 0 [some (.inr (.inr 8)), some (.inl l), some (.inl n)] [] I J from ?_)
  refine ⟨60, ?_⟩
  refine c_fill47 (by omega) 0 ?_
  exact h

set_option maxHeartbeats 1000000 in
theorem s_isNothing9 {d : Nat} (hd : 1 ≤ d) {I : mv_I} {J : mv_J} {Q : mv_Q} (h1 : I 9 1 = -1 → Q (some (.inl 1)) I J) (h0 : ¬ I 9 1 = -1 → Q (some (.inl 0)) I J) : mv_wpM mv_tab mv_sh d 32 [.inr (.inr 9)] I J Q := by
  obtain ⟨d, rfl⟩ : ∃ e, d = e + 1 := ⟨d - 1, by omega⟩
  refine (show ∃ fu9, mv_wp (mv_wpM mv_tab mv_sh d) mv_sh none tbX5_isNothing flX5 csX5 2 (fun _ _ _ _ _ => False) Q fu9 0 [some (.inr (.inr 9))] [] I J from ?_)
  refine ⟨60, ?_⟩
  refine And.intro (fun q => ?_) (fun q => ?_)
  all_goals first | exact And.intro (by decide) (h1 q) | exact And.intro (by decide) (h0 q) | exact And.intro (by decide) (h1 (Classical.not_not.mp q))

set_option maxHeartbeats 1000000 in
theorem s_hasItems9 {d : Nat} (hd : 1 ≤ d) (a b : Int32) {I : mv_I} {J : mv_J} {Q : mv_Q} (h1 : (0 ≤ a ∧ 0 ≤ b ∧ a ≤ I 9 2 - b) → Q (some (.inl 1)) I J) (h0 : ¬ (0 ≤ a ∧ 0 ≤ b ∧ a ≤ I 9 2 - b) → Q (some (.inl 0)) I J) : mv_wpM mv_tab mv_sh d 34 [.inr (.inr 9), .inl a, .inl b] I J Q := by
  obtain ⟨d, rfl⟩ : ∃ e, d = e + 1 := ⟨d - 1, by omega⟩
  refine (show ∃ fu9, mv_wp (mv_wpM mv_tab mv_sh d) mv_sh none tbX5_hasItems flX5 csX5 2 (fun _ _ _ _ _ => False) Q fu9 0 [some (.inr (.inr 9)), some (.inl a), some (.inl b)] [] I J from ?_)
  refine ⟨60, ?_⟩
  repeat' (first | refine And.intro (fun q => ?_) (fun q => ?_) | refine And.intro (by decide) ?_ | fail)
  all_goals first | exact h1 (by (try simp only [mi_le, mi_lt, mi_eq] at *); have := mi_l; omega) | exact h0 (by (try simp only [mi_le, mi_lt, mi_eq] at *); have := mi_l; omega)

set_option maxHeartbeats 1000000 in
theorem s_faultAs9 {d : Nat} (hd : 2 ≤ d) (b i n : Int32) {I : mv_I} {J : mv_J} {Q : mv_Q} (h : Q (some (.inl (v_fault (I 9 1) (I 9 2) b i n))) I J) : mv_wpM mv_tab mv_sh d 35 [.inr (.inr 9), .inl b, .inl i, .inl n] I J Q := by
  obtain ⟨d, rfl⟩ : ∃ e, d = e + 1 := ⟨d - 1, by omega⟩
  refine (show ∃ fu9, mv_wp (mv_wpM mv_tab mv_sh d) mv_sh none tbX5_faultAs flX5 csX5 1 (fun _ _ _ _ _ => False) Q fu9 0 [some (.inr (.inr 9)), some (.inl b), some (.inl i), some (.inl n)] [] I J from ?_)
  refine ⟨60, ?_⟩
  unfold v_fault at h
  refine s_isNothing9 (by omega) (fun p => ?_) (fun p => ?_)
  · first | refine And.intro (fun z => absurd z (by decide)) (fun _ => ?_) | refine And.intro (fun _ => ?_) (fun z => absurd z (by decide))
    rw [if_pos p] at h
    exact h
  · first | refine And.intro (fun z => absurd z (by decide)) (fun _ => ?_) | refine And.intro (fun _ => ?_) (fun z => absurd z (by decide))
    rw [if_neg p] at h
    refine And.intro (fun q => ?_) (fun q => ?_)
    · rw [if_pos q] at h
      refine s_hasItems9 (by omega) _ _ (fun z => ?_) (fun z => ?_)
      · first | refine And.intro (fun z => absurd z (by decide)) (fun _ => ?_) | refine And.intro (fun _ => ?_) (fun z => absurd z (by decide))
        rw [if_pos z] at h
        exact h
      · first | refine And.intro (fun z => absurd z (by decide)) (fun _ => ?_) | refine And.intro (fun _ => ?_) (fun z => absurd z (by decide))
        rw [if_neg z] at h
        exact h
    · rw [if_neg q] at h
      exact h

set_option maxHeartbeats 1000000 in
theorem l_above9 {d : Nat} {m i n : Int32} {I : mv_I} {J : mv_J} {Q : mv_Q} (hi : 0 ≤ i.toInt) (hn : 0 ≤ n.toInt) (hs : i.toInt + n.toInt ≤ 60) (H1 : (∃ j : Nat, i.toInt ≤ j ∧ j < i.toInt + n.toInt ∧ m < I 48 j) → Q (some (.inl 1)) I J) (H0 : ¬ (∃ j : Nat, i.toInt ≤ j ∧ j < i.toInt + n.toInt ∧ m < I 48 j) → Q (some (.inl 0)) I J) : ∀ (k fu : Nat) (x : Int32), i.toInt ≤ x.toInt → x.toInt ≤ i.toInt + n.toInt → (∀ j : Nat, i.toInt ≤ j → j < x.toInt → ¬ m < I 48 j) → (i.toInt + n.toInt - x.toInt).toNat < k → 40 * k ≤ fu → mv_wp (mv_wpM mv_tab mv_sh d) mv_sh none tbX5_hasAbove flX5 csX5 2 (fun _ _ _ _ _ => False) Q fu 3 [some (.inr (.inr 9)), some (.inl m), some (.inl i), some (.inl n), some (.inl x)] [] I J := by
  intro k
  induction k with
  | zero => intro fu x h0 h1 h2 h3 hf; omega
  | succ k ih =>
    intro fu x h0 h1 h2 h3 hf
    obtain ⟨fu, rfl⟩ : ∃ z, fu = z + 40 := ⟨fu - 40, by omega⟩
    have es : (i + n).toInt = i.toInt + n.toInt := mi_add (by omega) (by omega)
    refine And.intro (fun q => ?_) (fun q => ?_)
    · have qx : (i + n).toInt ≤ x.toInt := mi_le.mp q
      refine And.intro (by decide) (H0 ?_)
      rintro ⟨j, z1, z2, z3⟩
      exact h2 j z1 (by omega) z3
    · have qx : x.toInt < i.toInt + n.toInt := by rw [mi_le, es] at q; omega
      have e1 := mi_inc qx (by omega)
      have ecl := mi_cl (x := x) (by omega)
      refine And.intro (vp_in_iff.mpr ⟨by omega, by omega⟩) ?_
      refine And.intro (fun q => ?_) (fun q => ?_)
      · refine And.intro ?_ trivial
        refine ih _ _ (by omega) (by omega) (fun j z1 z2 => ?_) (by omega) (by omega)
        by_cases z3 : (j : Int) < x.toInt
        · exact h2 j z1 z3
        · have z4 : j = x.toNatClampNeg := by omega
          subst z4
          simp only [mi_le, mi_lt] at *
          omega
      · refine And.intro (by decide) (H1 ⟨x.toNatClampNeg, by omega, by omega, ?_⟩)
        simp only [mi_le, mi_lt] at *
        omega
set_option maxHeartbeats 1000000 in
theorem s_above9 {d : Nat} (hd : 1 ≤ d) (m i n : Int32) {I : mv_I} {J : mv_J} {Q : mv_Q} (hi : 0 ≤ i.toInt) (hn : 0 ≤ n.toInt) (hs : i.toInt + n.toInt ≤ 60) (h1 : (∃ j : Nat, i.toInt ≤ j ∧ j < i.toInt + n.toInt ∧ m < I 48 j) → Q (some (.inl 1)) I J) (h0 : ¬ (∃ j : Nat, i.toInt ≤ j ∧ j < i.toInt + n.toInt ∧ m < I 48 j) → Q (some (.inl 0)) I J) : mv_wpM mv_tab mv_sh d 36 [.inr (.inr 9), .inl m, .inl i, .inl n] I J Q := by
  obtain ⟨d, rfl⟩ : ∃ e, d = e + 1 := ⟨d - 1, by omega⟩
  refine (show ∃ fu9, mv_wp (mv_wpM mv_tab mv_sh d) mv_sh none tbX5_hasAbove flX5 csX5 2 (fun _ _ _ _ _ => False) Q fu9 0 [some (.inr (.inr 9)), some (.inl m), some (.inl i), some (.inl n), none] [] I J from ?_)
  refine ⟨2600, ?_⟩
  refine And.intro ?_ trivial
  exact l_above9 hi hn hs h1 h0 61 _ _ (by omega) (by omega) (fun j z1 z2 => by omega) (by omega) (Nat.le_of_ble_eq_true rfl)

set_option maxHeartbeats 1000000 in
theorem s_put9 {d : Nat} (hd : 1 ≤ d) (i v : Int32) {I : mv_I} {J : mv_J} {Q : mv_Q} (hi : rg i 0 59) (h : Q none (va_up I 48 (upd (I 48) i.toNatClampNeg (vput (I 9 1) v))) J) : mv_wpM mv_tab mv_sh d 37 [.inr (.inr 9), .inl i, .inl v] I J Q := by
  obtain ⟨d, rfl⟩ : ∃ e, d = e + 1 := ⟨d - 1, by omega⟩
  refine (show ∃ fu9, mv_wp (mv_wpM mv_tab mv_sh d) mv_sh none tbX5_put flX5 csX5 0 (fun _ _ _ _ _ => False) Q fu9 0 [some (.inr (.inr 9)), some (.inl i), some (.inl v)] [] I J from ?_)
  refine ⟨60, ?_⟩
  have B : vp_in i 60 := vp_in_iff.mpr ⟨hi.1, by have := hi.2; omega⟩
  unfold vput at h
  refine And.intro (fun q => ?_) (fun q => ?_)
  · rw [if_neg q] at h
    refine And.intro (fun q2 => ?_) (fun q2 => ?_)
    · rw [if_neg q2] at h
      exact And.intro B h
    · rw [if_pos q2] at h
      exact And.intro B h
  · rw [if_pos q] at h
    exact And.intro B h

set_option maxHeartbeats 1000000 in
theorem s_begin9 {d : Nat} (hd : 2 ≤ d) (l n : Int32) {I : mv_I} {J : mv_J} {Q : mv_Q} (h : Q none (bg 1 l n I) J) : mv_wpM mv_tab mv_sh d 33 [.inr (.inr 9), .inl l, .inl n] I J Q := by
  obtain ⟨d, rfl⟩ : ∃ e, d = e + 1 := ⟨d - 1, by omega⟩
  refine (show ∃ fu9, mv_wp (mv_wpM mv_tab mv_sh d) mv_sh none tbX5_begin flX5 csX5 0 (fun _ _ _ _ _ => False) Q fu9 0 [some (.inr (.inr 9)), some (.inl l), some (.inl n)] [] I J from ?_)
  refine ⟨60, ?_⟩
  refine c_fill48 (by omega) 0 ?_
  exact h

set_option maxHeartbeats 1000000 in
theorem s_isNothing10 {d : Nat} (hd : 1 ≤ d) {I : mv_I} {J : mv_J} {Q : mv_Q} (h1 : I 10 1 = -1 → Q (some (.inl 1)) I J) (h0 : ¬ I 10 1 = -1 → Q (some (.inl 0)) I J) : mv_wpM mv_tab mv_sh d 32 [.inr (.inr 10)] I J Q := by
  obtain ⟨d, rfl⟩ : ∃ e, d = e + 1 := ⟨d - 1, by omega⟩
  refine (show ∃ fu9, mv_wp (mv_wpM mv_tab mv_sh d) mv_sh none tbX5_isNothing flX5 csX5 2 (fun _ _ _ _ _ => False) Q fu9 0 [some (.inr (.inr 10))] [] I J from ?_)
  refine ⟨60, ?_⟩
  refine And.intro (fun q => ?_) (fun q => ?_)
  all_goals first | exact And.intro (by decide) (h1 q) | exact And.intro (by decide) (h0 q) | exact And.intro (by decide) (h1 (Classical.not_not.mp q))

set_option maxHeartbeats 1000000 in
theorem s_hasItems10 {d : Nat} (hd : 1 ≤ d) (a b : Int32) {I : mv_I} {J : mv_J} {Q : mv_Q} (h1 : (0 ≤ a ∧ 0 ≤ b ∧ a ≤ I 10 2 - b) → Q (some (.inl 1)) I J) (h0 : ¬ (0 ≤ a ∧ 0 ≤ b ∧ a ≤ I 10 2 - b) → Q (some (.inl 0)) I J) : mv_wpM mv_tab mv_sh d 34 [.inr (.inr 10), .inl a, .inl b] I J Q := by
  obtain ⟨d, rfl⟩ : ∃ e, d = e + 1 := ⟨d - 1, by omega⟩
  refine (show ∃ fu9, mv_wp (mv_wpM mv_tab mv_sh d) mv_sh none tbX5_hasItems flX5 csX5 2 (fun _ _ _ _ _ => False) Q fu9 0 [some (.inr (.inr 10)), some (.inl a), some (.inl b)] [] I J from ?_)
  refine ⟨60, ?_⟩
  repeat' (first | refine And.intro (fun q => ?_) (fun q => ?_) | refine And.intro (by decide) ?_ | fail)
  all_goals first | exact h1 (by (try simp only [mi_le, mi_lt, mi_eq] at *); have := mi_l; omega) | exact h0 (by (try simp only [mi_le, mi_lt, mi_eq] at *); have := mi_l; omega)

set_option maxHeartbeats 1000000 in
theorem s_faultAs10 {d : Nat} (hd : 2 ≤ d) (b i n : Int32) {I : mv_I} {J : mv_J} {Q : mv_Q} (h : Q (some (.inl (v_fault (I 10 1) (I 10 2) b i n))) I J) : mv_wpM mv_tab mv_sh d 35 [.inr (.inr 10), .inl b, .inl i, .inl n] I J Q := by
  obtain ⟨d, rfl⟩ : ∃ e, d = e + 1 := ⟨d - 1, by omega⟩
  refine (show ∃ fu9, mv_wp (mv_wpM mv_tab mv_sh d) mv_sh none tbX5_faultAs flX5 csX5 1 (fun _ _ _ _ _ => False) Q fu9 0 [some (.inr (.inr 10)), some (.inl b), some (.inl i), some (.inl n)] [] I J from ?_)
  refine ⟨60, ?_⟩
  unfold v_fault at h
  refine s_isNothing10 (by omega) (fun p => ?_) (fun p => ?_)
  · first | refine And.intro (fun z => absurd z (by decide)) (fun _ => ?_) | refine And.intro (fun _ => ?_) (fun z => absurd z (by decide))
    rw [if_pos p] at h
    exact h
  · first | refine And.intro (fun z => absurd z (by decide)) (fun _ => ?_) | refine And.intro (fun _ => ?_) (fun z => absurd z (by decide))
    rw [if_neg p] at h
    refine And.intro (fun q => ?_) (fun q => ?_)
    · rw [if_pos q] at h
      refine s_hasItems10 (by omega) _ _ (fun z => ?_) (fun z => ?_)
      · first | refine And.intro (fun z => absurd z (by decide)) (fun _ => ?_) | refine And.intro (fun _ => ?_) (fun z => absurd z (by decide))
        rw [if_pos z] at h
        exact h
      · first | refine And.intro (fun z => absurd z (by decide)) (fun _ => ?_) | refine And.intro (fun _ => ?_) (fun z => absurd z (by decide))
        rw [if_neg z] at h
        exact h
    · rw [if_neg q] at h
      exact h

set_option maxHeartbeats 1000000 in
theorem l_above10 {d : Nat} {m i n : Int32} {I : mv_I} {J : mv_J} {Q : mv_Q} (hi : 0 ≤ i.toInt) (hn : 0 ≤ n.toInt) (hs : i.toInt + n.toInt ≤ 60) (H1 : (∃ j : Nat, i.toInt ≤ j ∧ j < i.toInt + n.toInt ∧ m < I 49 j) → Q (some (.inl 1)) I J) (H0 : ¬ (∃ j : Nat, i.toInt ≤ j ∧ j < i.toInt + n.toInt ∧ m < I 49 j) → Q (some (.inl 0)) I J) : ∀ (k fu : Nat) (x : Int32), i.toInt ≤ x.toInt → x.toInt ≤ i.toInt + n.toInt → (∀ j : Nat, i.toInt ≤ j → j < x.toInt → ¬ m < I 49 j) → (i.toInt + n.toInt - x.toInt).toNat < k → 40 * k ≤ fu → mv_wp (mv_wpM mv_tab mv_sh d) mv_sh none tbX5_hasAbove flX5 csX5 2 (fun _ _ _ _ _ => False) Q fu 3 [some (.inr (.inr 10)), some (.inl m), some (.inl i), some (.inl n), some (.inl x)] [] I J := by
  intro k
  induction k with
  | zero => intro fu x h0 h1 h2 h3 hf; omega
  | succ k ih =>
    intro fu x h0 h1 h2 h3 hf
    obtain ⟨fu, rfl⟩ : ∃ z, fu = z + 40 := ⟨fu - 40, by omega⟩
    have es : (i + n).toInt = i.toInt + n.toInt := mi_add (by omega) (by omega)
    refine And.intro (fun q => ?_) (fun q => ?_)
    · have qx : (i + n).toInt ≤ x.toInt := mi_le.mp q
      refine And.intro (by decide) (H0 ?_)
      rintro ⟨j, z1, z2, z3⟩
      exact h2 j z1 (by omega) z3
    · have qx : x.toInt < i.toInt + n.toInt := by rw [mi_le, es] at q; omega
      have e1 := mi_inc qx (by omega)
      have ecl := mi_cl (x := x) (by omega)
      refine And.intro (vp_in_iff.mpr ⟨by omega, by omega⟩) ?_
      refine And.intro (fun q => ?_) (fun q => ?_)
      · refine And.intro ?_ trivial
        refine ih _ _ (by omega) (by omega) (fun j z1 z2 => ?_) (by omega) (by omega)
        by_cases z3 : (j : Int) < x.toInt
        · exact h2 j z1 z3
        · have z4 : j = x.toNatClampNeg := by omega
          subst z4
          simp only [mi_le, mi_lt] at *
          omega
      · refine And.intro (by decide) (H1 ⟨x.toNatClampNeg, by omega, by omega, ?_⟩)
        simp only [mi_le, mi_lt] at *
        omega
set_option maxHeartbeats 1000000 in
theorem s_above10 {d : Nat} (hd : 1 ≤ d) (m i n : Int32) {I : mv_I} {J : mv_J} {Q : mv_Q} (hi : 0 ≤ i.toInt) (hn : 0 ≤ n.toInt) (hs : i.toInt + n.toInt ≤ 60) (h1 : (∃ j : Nat, i.toInt ≤ j ∧ j < i.toInt + n.toInt ∧ m < I 49 j) → Q (some (.inl 1)) I J) (h0 : ¬ (∃ j : Nat, i.toInt ≤ j ∧ j < i.toInt + n.toInt ∧ m < I 49 j) → Q (some (.inl 0)) I J) : mv_wpM mv_tab mv_sh d 36 [.inr (.inr 10), .inl m, .inl i, .inl n] I J Q := by
  obtain ⟨d, rfl⟩ : ∃ e, d = e + 1 := ⟨d - 1, by omega⟩
  refine (show ∃ fu9, mv_wp (mv_wpM mv_tab mv_sh d) mv_sh none tbX5_hasAbove flX5 csX5 2 (fun _ _ _ _ _ => False) Q fu9 0 [some (.inr (.inr 10)), some (.inl m), some (.inl i), some (.inl n), none] [] I J from ?_)
  refine ⟨2600, ?_⟩
  refine And.intro ?_ trivial
  exact l_above10 hi hn hs h1 h0 61 _ _ (by omega) (by omega) (fun j z1 z2 => by omega) (by omega) (Nat.le_of_ble_eq_true rfl)

set_option maxHeartbeats 1000000 in
theorem s_put10 {d : Nat} (hd : 1 ≤ d) (i v : Int32) {I : mv_I} {J : mv_J} {Q : mv_Q} (hi : rg i 0 59) (h : Q none (va_up I 49 (upd (I 49) i.toNatClampNeg (vput (I 10 1) v))) J) : mv_wpM mv_tab mv_sh d 37 [.inr (.inr 10), .inl i, .inl v] I J Q := by
  obtain ⟨d, rfl⟩ : ∃ e, d = e + 1 := ⟨d - 1, by omega⟩
  refine (show ∃ fu9, mv_wp (mv_wpM mv_tab mv_sh d) mv_sh none tbX5_put flX5 csX5 0 (fun _ _ _ _ _ => False) Q fu9 0 [some (.inr (.inr 10)), some (.inl i), some (.inl v)] [] I J from ?_)
  refine ⟨60, ?_⟩
  have B : vp_in i 60 := vp_in_iff.mpr ⟨hi.1, by have := hi.2; omega⟩
  unfold vput at h
  refine And.intro (fun q => ?_) (fun q => ?_)
  · rw [if_neg q] at h
    refine And.intro (fun q2 => ?_) (fun q2 => ?_)
    · rw [if_neg q2] at h
      exact And.intro B h
    · rw [if_pos q2] at h
      exact And.intro B h
  · rw [if_pos q] at h
    exact And.intro B h

set_option maxHeartbeats 1000000 in
theorem s_begin10 {d : Nat} (hd : 2 ≤ d) (l n : Int32) {I : mv_I} {J : mv_J} {Q : mv_Q} (h : Q none (bg 2 l n I) J) : mv_wpM mv_tab mv_sh d 33 [.inr (.inr 10), .inl l, .inl n] I J Q := by
  obtain ⟨d, rfl⟩ : ∃ e, d = e + 1 := ⟨d - 1, by omega⟩
  refine (show ∃ fu9, mv_wp (mv_wpM mv_tab mv_sh d) mv_sh none tbX5_begin flX5 csX5 0 (fun _ _ _ _ _ => False) Q fu9 0 [some (.inr (.inr 10)), some (.inl l), some (.inl n)] [] I J from ?_)
  refine ⟨60, ?_⟩
  refine c_fill49 (by omega) 0 ?_
  exact h

set_option maxHeartbeats 1000000 in
theorem s_isNothing11 {d : Nat} (hd : 1 ≤ d) {I : mv_I} {J : mv_J} {Q : mv_Q} (h1 : I 11 1 = -1 → Q (some (.inl 1)) I J) (h0 : ¬ I 11 1 = -1 → Q (some (.inl 0)) I J) : mv_wpM mv_tab mv_sh d 32 [.inr (.inr 11)] I J Q := by
  obtain ⟨d, rfl⟩ : ∃ e, d = e + 1 := ⟨d - 1, by omega⟩
  refine (show ∃ fu9, mv_wp (mv_wpM mv_tab mv_sh d) mv_sh none tbX5_isNothing flX5 csX5 2 (fun _ _ _ _ _ => False) Q fu9 0 [some (.inr (.inr 11))] [] I J from ?_)
  refine ⟨60, ?_⟩
  refine And.intro (fun q => ?_) (fun q => ?_)
  all_goals first | exact And.intro (by decide) (h1 q) | exact And.intro (by decide) (h0 q) | exact And.intro (by decide) (h1 (Classical.not_not.mp q))

set_option maxHeartbeats 1000000 in
theorem s_hasItems11 {d : Nat} (hd : 1 ≤ d) (a b : Int32) {I : mv_I} {J : mv_J} {Q : mv_Q} (h1 : (0 ≤ a ∧ 0 ≤ b ∧ a ≤ I 11 2 - b) → Q (some (.inl 1)) I J) (h0 : ¬ (0 ≤ a ∧ 0 ≤ b ∧ a ≤ I 11 2 - b) → Q (some (.inl 0)) I J) : mv_wpM mv_tab mv_sh d 34 [.inr (.inr 11), .inl a, .inl b] I J Q := by
  obtain ⟨d, rfl⟩ : ∃ e, d = e + 1 := ⟨d - 1, by omega⟩
  refine (show ∃ fu9, mv_wp (mv_wpM mv_tab mv_sh d) mv_sh none tbX5_hasItems flX5 csX5 2 (fun _ _ _ _ _ => False) Q fu9 0 [some (.inr (.inr 11)), some (.inl a), some (.inl b)] [] I J from ?_)
  refine ⟨60, ?_⟩
  repeat' (first | refine And.intro (fun q => ?_) (fun q => ?_) | refine And.intro (by decide) ?_ | fail)
  all_goals first | exact h1 (by (try simp only [mi_le, mi_lt, mi_eq] at *); have := mi_l; omega) | exact h0 (by (try simp only [mi_le, mi_lt, mi_eq] at *); have := mi_l; omega)

set_option maxHeartbeats 1000000 in
theorem s_faultAs11 {d : Nat} (hd : 2 ≤ d) (b i n : Int32) {I : mv_I} {J : mv_J} {Q : mv_Q} (h : Q (some (.inl (v_fault (I 11 1) (I 11 2) b i n))) I J) : mv_wpM mv_tab mv_sh d 35 [.inr (.inr 11), .inl b, .inl i, .inl n] I J Q := by
  obtain ⟨d, rfl⟩ : ∃ e, d = e + 1 := ⟨d - 1, by omega⟩
  refine (show ∃ fu9, mv_wp (mv_wpM mv_tab mv_sh d) mv_sh none tbX5_faultAs flX5 csX5 1 (fun _ _ _ _ _ => False) Q fu9 0 [some (.inr (.inr 11)), some (.inl b), some (.inl i), some (.inl n)] [] I J from ?_)
  refine ⟨60, ?_⟩
  unfold v_fault at h
  refine s_isNothing11 (by omega) (fun p => ?_) (fun p => ?_)
  · first | refine And.intro (fun z => absurd z (by decide)) (fun _ => ?_) | refine And.intro (fun _ => ?_) (fun z => absurd z (by decide))
    rw [if_pos p] at h
    exact h
  · first | refine And.intro (fun z => absurd z (by decide)) (fun _ => ?_) | refine And.intro (fun _ => ?_) (fun z => absurd z (by decide))
    rw [if_neg p] at h
    refine And.intro (fun q => ?_) (fun q => ?_)
    · rw [if_pos q] at h
      refine s_hasItems11 (by omega) _ _ (fun z => ?_) (fun z => ?_)
      · first | refine And.intro (fun z => absurd z (by decide)) (fun _ => ?_) | refine And.intro (fun _ => ?_) (fun z => absurd z (by decide))
        rw [if_pos z] at h
        exact h
      · first | refine And.intro (fun z => absurd z (by decide)) (fun _ => ?_) | refine And.intro (fun _ => ?_) (fun z => absurd z (by decide))
        rw [if_neg z] at h
        exact h
    · rw [if_neg q] at h
      exact h

set_option maxHeartbeats 1000000 in
theorem l_above11 {d : Nat} {m i n : Int32} {I : mv_I} {J : mv_J} {Q : mv_Q} (hi : 0 ≤ i.toInt) (hn : 0 ≤ n.toInt) (hs : i.toInt + n.toInt ≤ 60) (H1 : (∃ j : Nat, i.toInt ≤ j ∧ j < i.toInt + n.toInt ∧ m < I 50 j) → Q (some (.inl 1)) I J) (H0 : ¬ (∃ j : Nat, i.toInt ≤ j ∧ j < i.toInt + n.toInt ∧ m < I 50 j) → Q (some (.inl 0)) I J) : ∀ (k fu : Nat) (x : Int32), i.toInt ≤ x.toInt → x.toInt ≤ i.toInt + n.toInt → (∀ j : Nat, i.toInt ≤ j → j < x.toInt → ¬ m < I 50 j) → (i.toInt + n.toInt - x.toInt).toNat < k → 40 * k ≤ fu → mv_wp (mv_wpM mv_tab mv_sh d) mv_sh none tbX5_hasAbove flX5 csX5 2 (fun _ _ _ _ _ => False) Q fu 3 [some (.inr (.inr 11)), some (.inl m), some (.inl i), some (.inl n), some (.inl x)] [] I J := by
  intro k
  induction k with
  | zero => intro fu x h0 h1 h2 h3 hf; omega
  | succ k ih =>
    intro fu x h0 h1 h2 h3 hf
    obtain ⟨fu, rfl⟩ : ∃ z, fu = z + 40 := ⟨fu - 40, by omega⟩
    have es : (i + n).toInt = i.toInt + n.toInt := mi_add (by omega) (by omega)
    refine And.intro (fun q => ?_) (fun q => ?_)
    · have qx : (i + n).toInt ≤ x.toInt := mi_le.mp q
      refine And.intro (by decide) (H0 ?_)
      rintro ⟨j, z1, z2, z3⟩
      exact h2 j z1 (by omega) z3
    · have qx : x.toInt < i.toInt + n.toInt := by rw [mi_le, es] at q; omega
      have e1 := mi_inc qx (by omega)
      have ecl := mi_cl (x := x) (by omega)
      refine And.intro (vp_in_iff.mpr ⟨by omega, by omega⟩) ?_
      refine And.intro (fun q => ?_) (fun q => ?_)
      · refine And.intro ?_ trivial
        refine ih _ _ (by omega) (by omega) (fun j z1 z2 => ?_) (by omega) (by omega)
        by_cases z3 : (j : Int) < x.toInt
        · exact h2 j z1 z3
        · have z4 : j = x.toNatClampNeg := by omega
          subst z4
          simp only [mi_le, mi_lt] at *
          omega
      · refine And.intro (by decide) (H1 ⟨x.toNatClampNeg, by omega, by omega, ?_⟩)
        simp only [mi_le, mi_lt] at *
        omega
set_option maxHeartbeats 1000000 in
theorem s_above11 {d : Nat} (hd : 1 ≤ d) (m i n : Int32) {I : mv_I} {J : mv_J} {Q : mv_Q} (hi : 0 ≤ i.toInt) (hn : 0 ≤ n.toInt) (hs : i.toInt + n.toInt ≤ 60) (h1 : (∃ j : Nat, i.toInt ≤ j ∧ j < i.toInt + n.toInt ∧ m < I 50 j) → Q (some (.inl 1)) I J) (h0 : ¬ (∃ j : Nat, i.toInt ≤ j ∧ j < i.toInt + n.toInt ∧ m < I 50 j) → Q (some (.inl 0)) I J) : mv_wpM mv_tab mv_sh d 36 [.inr (.inr 11), .inl m, .inl i, .inl n] I J Q := by
  obtain ⟨d, rfl⟩ : ∃ e, d = e + 1 := ⟨d - 1, by omega⟩
  refine (show ∃ fu9, mv_wp (mv_wpM mv_tab mv_sh d) mv_sh none tbX5_hasAbove flX5 csX5 2 (fun _ _ _ _ _ => False) Q fu9 0 [some (.inr (.inr 11)), some (.inl m), some (.inl i), some (.inl n), none] [] I J from ?_)
  refine ⟨2600, ?_⟩
  refine And.intro ?_ trivial
  exact l_above11 hi hn hs h1 h0 61 _ _ (by omega) (by omega) (fun j z1 z2 => by omega) (by omega) (Nat.le_of_ble_eq_true rfl)

set_option maxHeartbeats 1000000 in
theorem s_put11 {d : Nat} (hd : 1 ≤ d) (i v : Int32) {I : mv_I} {J : mv_J} {Q : mv_Q} (hi : rg i 0 59) (h : Q none (va_up I 50 (upd (I 50) i.toNatClampNeg (vput (I 11 1) v))) J) : mv_wpM mv_tab mv_sh d 37 [.inr (.inr 11), .inl i, .inl v] I J Q := by
  obtain ⟨d, rfl⟩ : ∃ e, d = e + 1 := ⟨d - 1, by omega⟩
  refine (show ∃ fu9, mv_wp (mv_wpM mv_tab mv_sh d) mv_sh none tbX5_put flX5 csX5 0 (fun _ _ _ _ _ => False) Q fu9 0 [some (.inr (.inr 11)), some (.inl i), some (.inl v)] [] I J from ?_)
  refine ⟨60, ?_⟩
  have B : vp_in i 60 := vp_in_iff.mpr ⟨hi.1, by have := hi.2; omega⟩
  unfold vput at h
  refine And.intro (fun q => ?_) (fun q => ?_)
  · rw [if_neg q] at h
    refine And.intro (fun q2 => ?_) (fun q2 => ?_)
    · rw [if_neg q2] at h
      exact And.intro B h
    · rw [if_pos q2] at h
      exact And.intro B h
  · rw [if_pos q] at h
    exact And.intro B h

set_option maxHeartbeats 1000000 in
theorem s_begin11 {d : Nat} (hd : 2 ≤ d) (l n : Int32) {I : mv_I} {J : mv_J} {Q : mv_Q} (h : Q none (bg 3 l n I) J) : mv_wpM mv_tab mv_sh d 33 [.inr (.inr 11), .inl l, .inl n] I J Q := by
  obtain ⟨d, rfl⟩ : ∃ e, d = e + 1 := ⟨d - 1, by omega⟩
  refine (show ∃ fu9, mv_wp (mv_wpM mv_tab mv_sh d) mv_sh none tbX5_begin flX5 csX5 0 (fun _ _ _ _ _ => False) Q fu9 0 [some (.inr (.inr 11)), some (.inl l), some (.inl n)] [] I J from ?_)
  refine ⟨60, ?_⟩
  refine c_fill50 (by omega) 0 ?_
  exact h

