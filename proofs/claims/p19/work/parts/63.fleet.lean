set_option maxHeartbeats 1000000 in
theorem s_addLot {d : Nat} (hd : 1 ≤ d) (a b c e : Int32) {I : mv_I} {J : mv_J} {Q : mv_Q} (hw : rg (I 3 6) 0 60) (h0 : (I 3 6).toInt = 60 → Q (some (.inl (-3))) I J) (h1 : (I 3 6).toInt < 60 → Q (some (.inl (I 3 6 + 1 - 1))) (va_up (va_up (va_up (va_up (va_up I 25 (upd (I 25) (I 3 6).toNatClampNeg a)) 26 (upd (I 26) (I 3 6).toNatClampNeg b)) 28 (upd (I 28) (I 3 6).toNatClampNeg c)) 27 (upd (I 27) (I 3 6).toNatClampNeg e)) 3 (upd (I 3) 6 (I 3 6 + 1))) J) : mv_wpM mv_tab mv_sh d 9 [.inr (.inr 3), .inl a, .inl b, .inl c, .inl e] I J Q := by
  obtain ⟨d, rfl⟩ : ∃ e, d = e + 1 := ⟨d - 1, by omega⟩
  refine (show ∃ fu9, mv_wp (mv_wpM mv_tab mv_sh d) mv_sh none tbX1_add flX1 csX1 1 (fun _ _ _ _ _ => False) Q fu9 0 [some (.inr (.inr 3)), some (.inl a), some (.inl b), some (.inl c), some (.inl e)] [] I J from ?_)
  refine ⟨60, ?_⟩
  obtain ⟨hn0, hn1⟩ := id hw
  refine And.intro (fun q => ?_) (fun q => ?_)
  · have qx : (I 3 6).toInt < 60 := by (try simp only [mi_le, mi_lt, mi_eq] at *); have := mi_l; omega
    have B : vp_in (I 3 6) 60 := vp_in_iff.mpr ⟨by omega, by omega⟩
    refine And.intro B ?_
    refine And.intro B ?_
    refine And.intro B ?_
    refine And.intro B ?_
    exact h1 qx
  · exact h0 (by (try simp only [mi_le, mi_lt, mi_eq] at *); have := mi_l; omega)

set_option maxHeartbeats 1000000 in
theorem s_toPort {d : Nat} (hd : 1 ≤ d) (a b : Int32) {I : mv_I} {J : mv_J} {Q : mv_Q} (ha : rg a 0 59) (h : Q none (va_up (va_up I 28 (upd (I 28) a.toNatClampNeg (I 28 a.toNatClampNeg - b))) 29 (upd (I 29) a.toNatClampNeg (I 29 a.toNatClampNeg + b))) J) : mv_wpM mv_tab mv_sh d 10 [.inr (.inr 3), .inl a, .inl b] I J Q := by
  obtain ⟨d, rfl⟩ : ∃ e, d = e + 1 := ⟨d - 1, by omega⟩
  refine (show ∃ fu9, mv_wp (mv_wpM mv_tab mv_sh d) mv_sh none tbX1_moveToPort flX1 csX1 0 (fun _ _ _ _ _ => False) Q fu9 0 [some (.inr (.inr 3)), some (.inl a), some (.inl b)] [] I J from ?_)
  refine ⟨60, ?_⟩
  have B : vp_in a 60 := vp_in_iff.mpr ⟨ha.1, by have := ha.2; omega⟩
  refine And.intro B ?_
  refine And.intro B ?_
  refine And.intro B ?_
  refine And.intro B ?_
  exact h

set_option maxHeartbeats 1000000 in
theorem s_toHolds {d : Nat} (hd : 1 ≤ d) (a b : Int32) {I : mv_I} {J : mv_J} {Q : mv_Q} (ha : rg a 0 59) (h : Q none (va_up (va_up I 29 (upd (I 29) a.toNatClampNeg (I 29 a.toNatClampNeg - b))) 30 (upd (I 30) a.toNatClampNeg (I 30 a.toNatClampNeg + b))) J) : mv_wpM mv_tab mv_sh d 11 [.inr (.inr 3), .inl a, .inl b] I J Q := by
  obtain ⟨d, rfl⟩ : ∃ e, d = e + 1 := ⟨d - 1, by omega⟩
  refine (show ∃ fu9, mv_wp (mv_wpM mv_tab mv_sh d) mv_sh none tbX1_moveToHolds flX1 csX1 0 (fun _ _ _ _ _ => False) Q fu9 0 [some (.inr (.inr 3)), some (.inl a), some (.inl b)] [] I J from ?_)
  refine ⟨60, ?_⟩
  have B : vp_in a 60 := vp_in_iff.mpr ⟨ha.1, by have := ha.2; omega⟩
  refine And.intro B ?_
  refine And.intro B ?_
  refine And.intro B ?_
  refine And.intro B ?_
  exact h

set_option maxHeartbeats 1000000 in
theorem l_sumOf28 {d : Nat} {I : mv_I} {J : mv_J} {Q : mv_Q} (hw : rg (I 3 6) 0 60) (h : ∀ r : Int32, Q (some (.inl r)) I J) : ∀ (k fu : Nat) (m x : Int32), 0 ≤ x.toInt → ((I 3 6).toInt - x.toInt).toNat < k → 40 * k ≤ fu → mv_wp (mv_wpM mv_tab mv_sh d) mv_sh none tbX1_sumOf flX1 csX1 1 (fun _ _ _ _ _ => False) Q fu 4 [some (.inr (.inr 3)), some (.inr (.inr 28)), some (.inl m), some (.inl x)] [] I J := by
  intro k
  induction k with
  | zero => intro fu m x h0 h1 hf; omega
  | succ k ih =>
    intro fu m x h0 h1 hf
    obtain ⟨fu, rfl⟩ : ∃ z, fu = z + 40 := ⟨fu - 40, by omega⟩
    obtain ⟨hn0, hn1⟩ := hw
    refine And.intro (fun q => ?_) (fun q => ?_)
    · exact h _
    · have qx : x.toInt < (I 3 6).toInt := by (try simp only [mi_le, mi_lt, mi_eq] at *); have := mi_l; omega
      have e1 := mi_incl qx
      refine And.intro (vp_in_iff.mpr ⟨by omega, by omega⟩) ?_
      refine And.intro ?_ trivial
      exact ih _ _ _ (by omega) (by omega) (by omega)
set_option maxHeartbeats 1000000 in
theorem s_sumOf28 {d : Nat} (hd : 1 ≤ d) {I : mv_I} {J : mv_J} {Q : mv_Q} (hw : rg (I 3 6) 0 60) (h : ∀ r : Int32, Q (some (.inl r)) I J) : mv_wpM mv_tab mv_sh d 12 [.inr (.inr 3), .inr (.inr 28)] I J Q := by
  obtain ⟨d, rfl⟩ : ∃ e, d = e + 1 := ⟨d - 1, by omega⟩
  refine (show ∃ fu9, mv_wp (mv_wpM mv_tab mv_sh d) mv_sh none tbX1_sumOf flX1 csX1 1 (fun _ _ _ _ _ => False) Q fu9 0 [some (.inr (.inr 3)), some (.inr (.inr 28)), none, none] [] I J from ?_)
  refine ⟨2600, ?_⟩
  refine And.intro ?_ trivial
  exact l_sumOf28 hw h 61 _ _ _ (by decide) (by obtain ⟨hn0, hn1⟩ := hw; have := mi_l; omega) (Nat.le_of_ble_eq_true rfl)

set_option maxHeartbeats 1000000 in
theorem l_sumOf29 {d : Nat} {I : mv_I} {J : mv_J} {Q : mv_Q} (hw : rg (I 3 6) 0 60) (h : ∀ r : Int32, Q (some (.inl r)) I J) : ∀ (k fu : Nat) (m x : Int32), 0 ≤ x.toInt → ((I 3 6).toInt - x.toInt).toNat < k → 40 * k ≤ fu → mv_wp (mv_wpM mv_tab mv_sh d) mv_sh none tbX1_sumOf flX1 csX1 1 (fun _ _ _ _ _ => False) Q fu 4 [some (.inr (.inr 3)), some (.inr (.inr 29)), some (.inl m), some (.inl x)] [] I J := by
  intro k
  induction k with
  | zero => intro fu m x h0 h1 hf; omega
  | succ k ih =>
    intro fu m x h0 h1 hf
    obtain ⟨fu, rfl⟩ : ∃ z, fu = z + 40 := ⟨fu - 40, by omega⟩
    obtain ⟨hn0, hn1⟩ := hw
    refine And.intro (fun q => ?_) (fun q => ?_)
    · exact h _
    · have qx : x.toInt < (I 3 6).toInt := by (try simp only [mi_le, mi_lt, mi_eq] at *); have := mi_l; omega
      have e1 := mi_incl qx
      refine And.intro (vp_in_iff.mpr ⟨by omega, by omega⟩) ?_
      refine And.intro ?_ trivial
      exact ih _ _ _ (by omega) (by omega) (by omega)
set_option maxHeartbeats 1000000 in
theorem s_sumOf29 {d : Nat} (hd : 1 ≤ d) {I : mv_I} {J : mv_J} {Q : mv_Q} (hw : rg (I 3 6) 0 60) (h : ∀ r : Int32, Q (some (.inl r)) I J) : mv_wpM mv_tab mv_sh d 12 [.inr (.inr 3), .inr (.inr 29)] I J Q := by
  obtain ⟨d, rfl⟩ : ∃ e, d = e + 1 := ⟨d - 1, by omega⟩
  refine (show ∃ fu9, mv_wp (mv_wpM mv_tab mv_sh d) mv_sh none tbX1_sumOf flX1 csX1 1 (fun _ _ _ _ _ => False) Q fu9 0 [some (.inr (.inr 3)), some (.inr (.inr 29)), none, none] [] I J from ?_)
  refine ⟨2600, ?_⟩
  refine And.intro ?_ trivial
  exact l_sumOf29 hw h 61 _ _ _ (by decide) (by obtain ⟨hn0, hn1⟩ := hw; have := mi_l; omega) (Nat.le_of_ble_eq_true rfl)

set_option maxHeartbeats 1000000 in
theorem l_sumOf30 {d : Nat} {I : mv_I} {J : mv_J} {Q : mv_Q} (hw : rg (I 3 6) 0 60) (h : ∀ r : Int32, Q (some (.inl r)) I J) : ∀ (k fu : Nat) (m x : Int32), 0 ≤ x.toInt → ((I 3 6).toInt - x.toInt).toNat < k → 40 * k ≤ fu → mv_wp (mv_wpM mv_tab mv_sh d) mv_sh none tbX1_sumOf flX1 csX1 1 (fun _ _ _ _ _ => False) Q fu 4 [some (.inr (.inr 3)), some (.inr (.inr 30)), some (.inl m), some (.inl x)] [] I J := by
  intro k
  induction k with
  | zero => intro fu m x h0 h1 hf; omega
  | succ k ih =>
    intro fu m x h0 h1 hf
    obtain ⟨fu, rfl⟩ : ∃ z, fu = z + 40 := ⟨fu - 40, by omega⟩
    obtain ⟨hn0, hn1⟩ := hw
    refine And.intro (fun q => ?_) (fun q => ?_)
    · exact h _
    · have qx : x.toInt < (I 3 6).toInt := by (try simp only [mi_le, mi_lt, mi_eq] at *); have := mi_l; omega
      have e1 := mi_incl qx
      refine And.intro (vp_in_iff.mpr ⟨by omega, by omega⟩) ?_
      refine And.intro ?_ trivial
      exact ih _ _ _ (by omega) (by omega) (by omega)
set_option maxHeartbeats 1000000 in
theorem s_sumOf30 {d : Nat} (hd : 1 ≤ d) {I : mv_I} {J : mv_J} {Q : mv_Q} (hw : rg (I 3 6) 0 60) (h : ∀ r : Int32, Q (some (.inl r)) I J) : mv_wpM mv_tab mv_sh d 12 [.inr (.inr 3), .inr (.inr 30)] I J Q := by
  obtain ⟨d, rfl⟩ : ∃ e, d = e + 1 := ⟨d - 1, by omega⟩
  refine (show ∃ fu9, mv_wp (mv_wpM mv_tab mv_sh d) mv_sh none tbX1_sumOf flX1 csX1 1 (fun _ _ _ _ _ => False) Q fu9 0 [some (.inr (.inr 3)), some (.inr (.inr 30)), none, none] [] I J from ?_)
  refine ⟨2600, ?_⟩
  refine And.intro ?_ trivial
  exact l_sumOf30 hw h 61 _ _ _ (by decide) (by obtain ⟨hn0, hn1⟩ := hw; have := mi_l; omega) (Nat.le_of_ble_eq_true rfl)

set_option maxHeartbeats 1000000 in
theorem s_addShip {d : Nat} (hd : 1 ≤ d) (a b c e f : Int32) {I : mv_I} {J : mv_J} {Q : mv_Q} (hw : rg (I 4 7) 0 6) (h0 : (I 4 7).toInt = 6 → Q (some (.inl (-3))) I J) (h1 : (I 4 7).toInt < 6 → Q (some (.inl (I 4 7 + 1 - 1))) (va_up (va_up (va_up (va_up (va_up (va_up I 31 (upd (I 31) (I 4 7).toNatClampNeg a)) 32 (upd (I 32) (I 4 7).toNatClampNeg b)) 33 (upd (I 33) (I 4 7).toNatClampNeg c)) 34 (upd (I 34) (I 4 7).toNatClampNeg e)) 35 (upd (I 35) (I 4 7).toNatClampNeg f)) 4 (upd (I 4) 7 (I 4 7 + 1))) J) : mv_wpM mv_tab mv_sh d 1 [.inr (.inr 4), .inl a, .inl b, .inl c, .inl e, .inl f] I J Q := by
  obtain ⟨d, rfl⟩ : ∃ e, d = e + 1 := ⟨d - 1, by omega⟩
  refine (show ∃ fu9, mv_wp (mv_wpM mv_tab mv_sh d) mv_sh none tbX0_add flX0 csX0 1 (fun _ _ _ _ _ => False) Q fu9 0 [some (.inr (.inr 4)), some (.inl a), some (.inl b), some (.inl c), some (.inl e), some (.inl f)] [] I J from ?_)
  refine ⟨80, ?_⟩
  obtain ⟨hn0, hn1⟩ := id hw
  refine And.intro (fun q => ?_) (fun q => ?_)
  · have qx : (I 4 7).toInt < 6 := by (try simp only [mi_le, mi_lt, mi_eq] at *); have := mi_l; omega
    have B : vp_in (I 4 7) 6 := vp_in_iff.mpr ⟨by omega, by omega⟩
    refine And.intro B ?_
    refine And.intro B ?_
    refine And.intro B ?_
    refine And.intro B ?_
    refine And.intro B ?_
    exact h1 qx
  · exact h0 (by (try simp only [mi_le, mi_lt, mi_eq] at *); have := mi_l; omega)

set_option maxHeartbeats 1000000 in
theorem s_freeRoom {d : Nat} (hd : 1 ≤ d) (a : Int32) {I : mv_I} {J : mv_J} {Q : mv_Q} (ha : rg a 0 5) (h : Q (some (.inl (I 32 a.toNatClampNeg - I 36 a.toNatClampNeg))) I J) : mv_wpM mv_tab mv_sh d 2 [.inr (.inr 4), .inl a] I J Q := by
  obtain ⟨d, rfl⟩ : ∃ e, d = e + 1 := ⟨d - 1, by omega⟩
  refine (show ∃ fu9, mv_wp (mv_wpM mv_tab mv_sh d) mv_sh none tbX0_freeRoom flX0 csX0 1 (fun _ _ _ _ _ => False) Q fu9 0 [some (.inr (.inr 4)), some (.inl a)] [] I J from ?_)
  refine ⟨60, ?_⟩
  have B : vp_in a 6 := vp_in_iff.mpr ⟨ha.1, by have := ha.2; omega⟩
  refine And.intro B ?_
  refine And.intro B ?_
  exact h

theorem mi_360 {a b : Int32} (ha : rg a 0 5) (hb : rg b 0 59) : vp_in (a * 60 + b) 360 ∧ (a * 60 + b).toInt = a.toInt * 60 + b.toInt := by
  obtain ⟨a0, a1⟩ := ha
  obtain ⟨b0, b1⟩ := hb
  have c60 : (60 : Int32).toInt = 60 := by decide
  have e1 : (a * 60).toInt = a.toInt * 60 := by rw [mi_mul (by rw [c60]; omega) (by rw [c60]; omega), c60]
  have e2 : (a * 60 + b).toInt = a.toInt * 60 + b.toInt := by rw [mi_add (by rw [e1]; omega) (by rw [e1]; omega), e1]
  exact ⟨vp_in_iff.mpr ⟨by omega, by omega⟩, e2⟩
set_option maxHeartbeats 1000000 in
theorem s_stowedOf {d : Nat} (hd : 1 ≤ d) (a b : Int32) {I : mv_I} {J : mv_J} {Q : mv_Q} (ha : rg a 0 5) (hb : rg b 0 59) (h : Q (some (.inl (I 37 (a * 60 + b).toNatClampNeg))) I J) : mv_wpM mv_tab mv_sh d 3 [.inr (.inr 4), .inl a, .inl b] I J Q := by
  obtain ⟨d, rfl⟩ : ∃ e, d = e + 1 := ⟨d - 1, by omega⟩
  refine (show ∃ fu9, mv_wp (mv_wpM mv_tab mv_sh d) mv_sh none tbX0_stowedOf flX0 csX0 1 (fun _ _ _ _ _ => False) Q fu9 0 [some (.inr (.inr 4)), some (.inl a), some (.inl b)] [] I J from ?_)
  refine ⟨60, ?_⟩
  exact And.intro (mi_360 ha hb).1 h

set_option maxHeartbeats 1000000 in
theorem s_stow {d : Nat} (hd : 2 ≤ d) (a b c : Int32) {I : mv_I} {J : mv_J} {Q : mv_Q} (ha : rg a 0 5) (hb : rg b 0 59) (h : ∀ r : Int32, Q (some (.inl r)) (va_up (va_up I 36 (upd (I 36) a.toNatClampNeg (I 36 a.toNatClampNeg + c))) 37 (upd (I 37) (a * 60 + b).toNatClampNeg (I 37 (a * 60 + b).toNatClampNeg + c))) J) : mv_wpM mv_tab mv_sh d 4 [.inr (.inr 4), .inl a, .inl b, .inl c] I J Q := by
  obtain ⟨d, rfl⟩ : ∃ e, d = e + 1 := ⟨d - 1, by omega⟩
  refine (show ∃ fu9, mv_wp (mv_wpM mv_tab mv_sh d) mv_sh none tbX0_stow flX0 csX0 1 (fun _ _ _ _ _ => False) Q fu9 0 [some (.inr (.inr 4)), some (.inl a), some (.inl b), some (.inl c)] [] I J from ?_)
  refine ⟨60, ?_⟩
  have B : vp_in a 6 := vp_in_iff.mpr ⟨ha.1, by have := ha.2; omega⟩
  have B2 := (mi_360 ha hb).1
  refine And.intro B ?_
  refine And.intro B ?_
  refine And.intro B2 ?_
  refine And.intro B2 ?_
  exact s_stowedOf (by omega) _ _ ha hb (h _)

set_option maxHeartbeats 1000000 in
theorem s_turnBehind {d : Nat} (hd : 1 ≤ d) (a b : Int32) {I : mv_I} {J : mv_J} {Q : mv_Q} (ha : rg a 0 5) (hA : ∀ j, rg (I 31 j) 0 59) (h : ∀ r : Int32, 0 ≤ r.toInt → Q (some (.inl r)) I J) : mv_wpM mv_tab mv_sh d 5 [.inr (.inr 4), .inl a, .inl b] I J Q := by
  obtain ⟨d, rfl⟩ : ∃ e, d = e + 1 := ⟨d - 1, by omega⟩
  refine (show ∃ fu9, mv_wp (mv_wpM mv_tab mv_sh d) mv_sh none tbX0_turnBehind flX0 csX0 1 (fun _ _ _ _ _ => False) Q fu9 0 [some (.inr (.inr 4)), some (.inl a), some (.inl b)] [] I J from ?_)
  refine ⟨60, ?_⟩
  have B : vp_in a 6 := vp_in_iff.mpr ⟨ha.1, by have := ha.2; omega⟩
  refine And.intro B ?_
  refine h _ ?_
  have hA1 := (hA a.toNatClampNeg).1
  by_cases q : I 31 a.toNatClampNeg < b + 1
  · rw [if_pos q]
    rw [mi_lt] at q
    omega
  · rw [if_neg q]
    exact hA1

theorem mi_div {a b : Int32} (ha : 0 ≤ a.toInt) (hb : 0 < b.toInt) : (a / b).toInt = a.toInt / b.toInt := by
  have hm := mi_max a
  rw [Int32.toInt_div]
  rw [Int.tdiv_eq_ediv_of_nonneg ha]
  have h1 : a.toInt / b.toInt ≤ a.toInt := Int.ediv_le_self _ ha
  have h2 : 0 ≤ a.toInt / b.toInt := Int.ediv_nonneg ha (by omega)
  exact Int.bmod_eq_of_le (by omega) (by omega)
theorem mg_days {r b : Int32} (hr : rg r 1 20000) (hb : rg b 1 2000) : rg ((r + b - 1) / b) 1 20000 := by
  obtain ⟨r0, r1⟩ := hr
  obtain ⟨b0, b1⟩ := hb
  have c1 : (1 : Int32).toInt = 1 := by decide
  have e1 : (r + b).toInt = r.toInt + b.toInt := mi_add (by omega) (by omega)
  have e2 : (r + b - 1).toInt = r.toInt + b.toInt - 1 := by rw [mi_sub (by rw [e1]; omega) (by rw [e1]; omega), e1, c1]
  have e3 := mi_div (a := r + b - 1) (b := b) (by omega) (by omega)
  unfold rg
  rw [e3, e2]
  constructor
  · exact (Int.le_ediv_iff_mul_le (by omega)).mpr (by omega)
  · refine Int.le_of_lt_add_one ((Int.ediv_lt_iff_lt_mul (by omega)).mpr ?_)
    have : (20000 + 1) * 1 ≤ (20000 + 1) * b.toInt := Int.mul_le_mul_of_nonneg_left b0 (by omega)
    have h3 : r.toInt + b.toInt - 1 < 20000 + b.toInt := by omega
    have h4 : 20000 + b.toInt ≤ (20000 + 1) * b.toInt := by
      have : 20000 * 1 ≤ 20000 * b.toInt := Int.mul_le_mul_of_nonneg_left b0 (by omega)
      omega
    omega
set_option maxHeartbeats 1000000 in
theorem s_loadingDays {d : Nat} (hd : 1 ≤ d) (a : Int32) {I : mv_I} {J : mv_J} {Q : mv_Q} (ha : rg a 0 5) (hR : rg (I 32 a.toNatClampNeg) 1 20000) (hr : rg (I 33 a.toNatClampNeg) 1 2000) (h : ∀ r : Int32, rg r 1 20000 → Q (some (.inl r)) I J) : mv_wpM mv_tab mv_sh d 6 [.inr (.inr 4), .inl a] I J Q := by
  obtain ⟨d, rfl⟩ : ∃ e, d = e + 1 := ⟨d - 1, by omega⟩
  refine (show ∃ fu9, mv_wp (mv_wpM mv_tab mv_sh d) mv_sh none tbX0_loadingDays flX0 csX0 1 (fun _ _ _ _ _ => False) Q fu9 0 [some (.inr (.inr 4)), some (.inl a), none] [] I J from ?_)
  refine ⟨60, ?_⟩
  have B : vp_in a 6 := vp_in_iff.mpr ⟨ha.1, by have := ha.2; omega⟩
  obtain ⟨r0, r1⟩ := id hr
  refine And.intro B ?_
  refine And.intro (fun q => absurd q (fun q => by (try simp only [mi_le, mi_lt, mi_eq] at *); have := mi_l; omega)) (fun q => ?_)
  refine And.intro B ?_
  refine And.intro (by intro z; rw [z] at r0; exact absurd r0 (by decide)) ?_
  exact h _ (mg_days hR hr)

set_option maxHeartbeats 1000000 in
theorem s_costOf {d : Nat} (hd : 1 ≤ d) (a b : Int32) {I : mv_I} {J : mv_J} {Q : mv_Q} (ha : rg a 0 5) (h : ∀ r : Int32, Q (some (.inl r)) I J) : mv_wpM mv_tab mv_sh d 7 [.inr (.inr 4), .inl a, .inl b] I J Q := by
  obtain ⟨d, rfl⟩ : ∃ e, d = e + 1 := ⟨d - 1, by omega⟩
  refine (show ∃ fu9, mv_wp (mv_wpM mv_tab mv_sh d) mv_sh none tbX0_costOf flX0 csX0 1 (fun _ _ _ _ _ => False) Q fu9 0 [some (.inr (.inr 4)), some (.inl a), some (.inl b), none] [] I J from ?_)
  refine ⟨60, ?_⟩
  have B : vp_in a 6 := vp_in_iff.mpr ⟨ha.1, by have := ha.2; omega⟩
  refine And.intro B ?_
  refine And.intro B ?_
  refine And.intro B ?_
  exact h _

set_option maxHeartbeats 1000000 in
theorem l_taken2 {d : Nat} {day b : Int32} {I : mv_I} {J : mv_J} {Q : mv_Q} (hb : rg b (-1) 59) (h : ∀ r : Int32, Q (some (.inl r)) I J) : ∀ (k fu : Nat) (x : Int32), 0 ≤ x.toInt → (60 - x.toInt).toNat < k → 40 * k + 40 ≤ fu → mv_wp (mv_wpM mv_tab mv_sh d) mv_sh none tbX4_takenOn flX4 csX4 1 (fun _ _ _ _ _ => False) Q fu 23 [some (.inr (.inr 5)), some (.inl day), some (.inl b), some (.inl x)] [] I J := by
  intro k
  induction k with
  | zero => intro fu x h0 h1 hf; omega
  | succ k ih =>
    intro fu x h0 h1 hf
    obtain ⟨fu, rfl⟩ : ∃ z, fu = z + 40 := ⟨fu - 40, by omega⟩
    obtain ⟨b0, b1⟩ := id hb
    have EX : (60 ≤ x ∨ vp_in x 60) → ∀ fu, 40 ≤ fu → mv_wp (mv_wpM mv_tab mv_sh d) mv_sh none tbX4_takenOn flX4 csX4 1 (fun _ _ _ _ _ => False) Q fu 44 [some (.inr (.inr 5)), some (.inl day), some (.inl b), some (.inl x)] [] I J := by
      intro hx fu hfu
      obtain ⟨fu, rfl⟩ : ∃ z, fu = z + 40 := ⟨fu - 40, by omega⟩
      refine And.intro (fun q => ?_) (fun q => ?_)
      · have Bb : vp_in b 60 := vp_in_iff.mpr ⟨by (try simp only [mi_le, mi_lt, mi_eq] at *); have := mi_l; omega, by omega⟩
        refine And.intro (fun q => ?_) (fun q => ?_)
        · exact And.intro Bb (h _)
        · have Bx : vp_in x 60 := hx.resolve_left q
          refine And.intro Bb ?_
          refine And.intro Bx ?_
          exact And.intro (by decide) (h _)
      · refine And.intro (fun q => ?_) (fun q => ?_)
        · exact h _
        · exact And.intro (hx.resolve_left q) (h _)
    refine And.intro (fun q => ?_) (fun q => ?_)
    · exact EX (Or.inl q) _ (by omega)
    · have qx : x.toInt < 60 := by (try simp only [mi_le, mi_lt, mi_eq] at *); have := mi_l; omega
      have e1 := mi_inc qx (by omega)
      have Bx : vp_in x 60 := vp_in_iff.mpr ⟨by omega, by omega⟩
      refine And.intro Bx ?_
      refine And.intro (fun _ => ?_) (fun _ => ?_)
      · exact EX (Or.inr Bx) _ (by omega)
      · refine And.intro ?_ trivial
        exact ih _ _ (by omega) (by omega) (by omega)
set_option maxHeartbeats 1000000 in
theorem l_taken1 {d : Nat} {day : Int32} {I : mv_I} {J : mv_J} {Q : mv_Q} (hd : rg day 0 59) (h : ∀ r : Int32, Q (some (.inl r)) I J) : ∀ (k fu : Nat) (x : Int32) (y : Option mv_V), rg x (-1) 59 → (x.toInt + 1).toNat < k → 40 * k + 2600 ≤ fu → mv_wp (mv_wpM mv_tab mv_sh d) mv_sh none tbX4_takenOn flX4 csX4 1 (fun _ _ _ _ _ => False) Q fu 2 [some (.inr (.inr 5)), some (.inl day), some (.inl x), y] [] I J := by
  intro k
  induction k with
  | zero => intro fu x y h0 h1 hf; omega
  | succ k ih =>
    intro fu x y h0 h1 hf
    obtain ⟨fu, rfl⟩ : ∃ z, fu = z + 40 := ⟨fu - 40, by omega⟩
    obtain ⟨x0, x1⟩ := id h0
    obtain ⟨d0, d1⟩ := id hd
    refine And.intro (fun q => ?_) (fun q => ?_)
    · refine And.intro ?_ trivial
      exact l_taken2 h0 h 61 _ _ (by omega) (by omega) (by omega)
    · have qx : 0 ≤ x.toInt := by (try simp only [mi_le, mi_lt, mi_eq] at *); have := mi_l; omega
      have e1 : (x + -1).toInt = x.toInt - 1 := mi_dec qx
      refine And.intro (vp_in_iff.mpr ⟨by omega, by omega⟩) ?_
      refine And.intro (fun _ => ?_) (fun _ => ?_)
      · refine And.intro ?_ trivial
        exact l_taken2 h0 h 61 _ _ (by omega) (by omega) (by omega)
      · refine And.intro ?_ trivial
        exact ih _ _ _ ⟨by omega, by omega⟩ (by omega) (by omega)
set_option maxHeartbeats 1000000 in
theorem s_takenOn {d : Nat} (hd : 1 ≤ d) (day : Int32) {I : mv_I} {J : mv_J} {Q : mv_Q} (hd2 : rg day 0 59) (h : ∀ r : Int32, Q (some (.inl r)) I J) : mv_wpM mv_tab mv_sh d 13 [.inr (.inr 5), .inl day] I J Q := by
  obtain ⟨d, rfl⟩ : ∃ e, d = e + 1 := ⟨d - 1, by omega⟩
  refine (show ∃ fu9, mv_wp (mv_wpM mv_tab mv_sh d) mv_sh none tbX4_takenOn flX4 csX4 1 (fun _ _ _ _ _ => False) Q fu9 0 [some (.inr (.inr 5)), some (.inl day), none, none] [] I J from ?_)
  refine ⟨5200, ?_⟩
  refine And.intro ?_ trivial
  exact l_taken1 hd2 h 61 _ _ _ ⟨by have := hd2.1; omega, hd2.2⟩ (by obtain ⟨d0, d1⟩ := hd2; omega) (Nat.le_of_ble_eq_true rfl)

def mg_sea (I I' : mv_I) : Prop := mg_f2 [39, 40] [(5, 4), (5, 5)] I I'
set_option maxHeartbeats 1000000 in
theorem l_cld {d : Nat} (hd : 1 ≤ d) {J : mv_J} {Q : mv_Q} {I0 : mv_I} (h : ∀ (I' : mv_I), mg_sea I0 I' → rg (I' 5 4) 0 60 → (∀ j : Nat, j < 60 → rg (I' 40 j) 0 60) → Q none I' J) : ∀ (k fu : Nat) (x : Int32) (I : mv_I), rg x 0 60 → mg_sea I0 I → rg (I 5 4) 0 x.toInt → (∀ j : Nat, (j : Int) < x.toInt → rg (I 40 j) 0 60) → (60 - x.toInt).toNat < k → 60 * k ≤ fu → mv_wp (mv_wpM mv_tab mv_sh d) mv_sh none tbX4_countLoadableDays flX4 csX4 0 (fun _ _ _ _ _ => False) Q fu 7 [some (.inr (.inr 5)), some (.inl x)] [] I J := by
  intro k
  induction k with
  | zero => intro fu x I h0 h1 h2 h3 h4 hf; omega
  | succ k ih =>
    intro fu x I h0 h1 h2 h3 h4 hf
    obtain ⟨fu, rfl⟩ : ∃ z, fu = z + 60 := ⟨fu - 60, by omega⟩
    obtain ⟨x0, x1⟩ := id h0
    obtain ⟨l0, l1⟩ := id h2
    refine And.intro (fun q => ?_) (fun q => ?_)
    · have qx : x.toInt = 60 := by (try simp only [mi_le, mi_lt, mi_eq] at *); have := mi_l; omega
      refine s_takenOn (by omega) _ ⟨by decide, by decide⟩ (fun r => ?_)
      refine And.intro (fun q => ?_) (fun q => ?_)
      · refine And.intro (Or.inl rfl) ?_
        exact h _ (mg_f2.uf h1 rfl) (show rg (I 5 4) 0 60 from ⟨l0, by omega⟩) (fun j hj => h3 j (by omega))
      · refine And.intro (Or.inr rfl) ?_
        exact h _ (mg_f2.uf h1 rfl) (show rg (I 5 4) 0 60 from ⟨l0, by omega⟩) (fun j hj => h3 j (by omega))
    · have qx : x.toInt < 60 := by (try simp only [mi_le, mi_lt, mi_eq] at *); have := mi_l; omega
      have e1 := mi_inc qx (by omega)
      have e2 := mi_inc (x := I 5 4) (n := 60) (by omega) (by omega)
      have ecl := mi_cl x0
      refine And.intro (vp_in_iff.mpr ⟨by omega, by omega⟩) ?_
      have H3 : ∀ j : Nat, (j : Int) < (x + 1).toInt → rg (upd (I 40) x.toNatClampNeg (I 5 4) j) 0 60 := by
        intro j hj
        unfold upd
        by_cases hj2 : j = x.toNatClampNeg
        · rw [if_pos hj2]; exact ⟨by omega, by omega⟩
        · rw [if_neg hj2]; exact h3 j (by omega)
      refine s_takenOn (by omega) _ ⟨by omega, by omega⟩ (fun r => ?_)
      refine And.intro (fun q => ?_) (fun q => ?_)
      · refine And.intro ?_ trivial
        exact ih _ _ _ ⟨by omega, by omega⟩ (mg_f2.up h1 rfl) (show rg (I 5 4) 0 (x + 1).toInt from ⟨l0, by omega⟩) H3 (by omega) (by omega)
      · refine And.intro (show vp_in (I 5 4) 60 from vp_in_iff.mpr ⟨by omega, by omega⟩) ?_
        refine And.intro ?_ trivial
        exact ih _ _ _ ⟨by omega, by omega⟩ (mg_f2.uf (mg_f2.up (mg_f2.up h1 rfl) rfl) rfl) (show rg (I 5 4 + 1) 0 (x + 1).toInt from ⟨by omega, by omega⟩) H3 (by omega) (by omega)
set_option maxHeartbeats 1000000 in
theorem s_cld {d : Nat} (hd : 2 ≤ d) {I : mv_I} {J : mv_J} {Q : mv_Q} (h : ∀ (I' : mv_I), mg_sea I I' → rg (I' 5 4) 0 60 → (∀ j : Nat, j < 60 → rg (I' 40 j) 0 60) → Q none I' J) : mv_wpM mv_tab mv_sh d 14 [.inr (.inr 5)] I J Q := by
  obtain ⟨d, rfl⟩ : ∃ e, d = e + 1 := ⟨d - 1, by omega⟩
  refine (show ∃ fu9, mv_wp (mv_wpM mv_tab mv_sh d) mv_sh none tbX4_countLoadableDays flX4 csX4 0 (fun _ _ _ _ _ => False) Q fu9 0 [some (.inr (.inr 5)), none] [] I J from ?_)
  refine ⟨3800, ?_⟩
  refine And.intro ?_ trivial
  exact l_cld (by omega) h 61 _ _ _ ⟨by decide, by decide⟩ (mg_f2.uf mg_f2.rf rfl) (show rg (0 : Int32) 0 (0 : Int32).toInt from ⟨by decide, by decide⟩) (fun j hj => absurd hj (by have := mi_l; omega)) (by decide) (Nat.le_of_ble_eq_true rfl)

set_option maxHeartbeats 1000000 in
theorem s_endFrom {d : Nat} (hd : 1 ≤ d) (a b : Int32) {I : mv_I} {J : mv_J} {Q : mv_Q} (ha : 0 ≤ a.toInt) (hb : rg b 1 20000) (hl : rg (I 5 4) 0 60) (hB : ∀ j : Nat, j < 60 → rg (I 40 j) 0 60) (h : ∀ r : Int32, Q (some (.inl r)) I J) : mv_wpM mv_tab mv_sh d 15 [.inr (.inr 5), .inl a, .inl b] I J Q := by
  obtain ⟨d, rfl⟩ : ∃ e, d = e + 1 := ⟨d - 1, by omega⟩
  refine (show ∃ fu9, mv_wp (mv_wpM mv_tab mv_sh d) mv_sh none tbX4_endFrom flX4 csX4 1 (fun _ _ _ _ _ => False) Q fu9 0 [some (.inr (.inr 5)), some (.inl a), some (.inl b), none] [] I J from ?_)
  refine ⟨60, ?_⟩
  obtain ⟨b0, b1⟩ := hb
  obtain ⟨l0, l1⟩ := hl
  refine And.intro (fun q => ?_) (fun q => ?_)
  · have qx : a.toInt < 60 := by (try simp only [mi_le, mi_lt, mi_eq] at *); have := mi_l; omega
    have ecl := mi_cl ha
    obtain ⟨z0, z1⟩ := hB a.toNatClampNeg (by omega)
    have c1 : (1 : Int32).toInt = 1 := by decide
    have e1 : (I 40 a.toNatClampNeg + b).toInt = (I 40 a.toNatClampNeg).toInt + b.toInt := mi_add (by omega) (by omega)
    have e2 : (I 40 a.toNatClampNeg + b - 1).toInt = (I 40 a.toNatClampNeg).toInt + b.toInt - 1 := by rw [mi_sub (by rw [e1]; omega) (by rw [e1]; omega), e1, c1]
    refine And.intro (vp_in_iff.mpr ⟨by omega, by omega⟩) ?_
    refine And.intro (fun q => ?_) (fun q => ?_)
    · refine And.intro (fun q => ?_) (fun q => ?_)
      · exact h _
      · exact h _
    · have q2 : (I 40 a.toNatClampNeg + b - 1).toInt < (I 5 4).toInt := by rw [mi_le] at q; omega
      exact And.intro (vp_in_iff.mpr ⟨by omega, by omega⟩) (h _)
  · refine And.intro (fun q => ?_) (fun q => ?_)
    · exact h _
    · exact h _

