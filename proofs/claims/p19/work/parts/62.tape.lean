def bt_of (w : Int64) (x : Int32) : Int32 := (w >>> ((8 * x).toInt64 &&& 63)).toInt32 &&& 255
def bt_ok (w : Int64) (k : Nat) : Prop := 32 ≤ bt_of w (nI k) ∧ bt_of w (nI k) ≤ 126
def vt_ok (w : Int64) (n : Int32) : Prop := (1 ≤ n ∧ n ≤ 8) ∧ ∀ k, k < n.toNatClampNeg → bt_ok w k
theorem bt_and (x : Int64) : (x &&& 255).toInt32 = x.toInt32 &&& 255 := by
  apply Int32.toBitVec_inj.mp
  simp only [Int64.toBitVec_toInt32, Int64.toBitVec_and, Int32.toBitVec_and]
  have e1 : (255 : Int64).toBitVec = 255#64 := rfl
  have e2 : (255 : Int32).toBitVec = 255#32 := rfl
  rw [e1, e2]
  ext i hi
  simp only [BitVec.getElem_signExtend, BitVec.getElem_and, BitVec.getLsbD_and, BitVec.getElem_setWidth]
  have : (255#64).getLsbD i = (255#32)[i] := by
    rw [← BitVec.getLsbD_eq_getElem]
    simp only [BitVec.getLsbD_ofNat]
    simp [show i < 64 by omega, hi]
  simp [show i < 64 by omega]
  rw [show (255#64)[i] = (255#32)[i] from by rw [← BitVec.getLsbD_eq_getElem]; exact this]
theorem mi_dec {x : Int32} (h : 0 ≤ x.toInt) : (x + -1).toInt = x.toInt - 1 := by
  obtain ⟨j, hj, rfl⟩ := nI_of (x := x) (by simp only [mi_lt]; have := mi_l; omega)
  rw [nI_toInt hj]
  cases j with
  | zero => decide
  | succ j => rw [pk_m1, nI_toInt (by omega)]; omega
set_option maxHeartbeats 1000000 in
theorem c_byteOf {d : Nat} (hd : 1 ≤ d) (a : Int32) (w : Int64) {I : mv_I} {J : mv_J} {Q : mv_Q} (h : Q (some (.inl (bt_of w a))) I J) : mv_wpM mv_tab mv_sh d 38 [.inr (.inl w), .inl a] I J Q := by
  obtain ⟨d, rfl⟩ : ∃ e, d = e + 1 := ⟨d - 1, by omega⟩
  refine (show ∃ fu9, mv_wp (mv_wpM mv_tab mv_sh d) mv_sh none tbX6_byteOf flX6 csX6 1 (fun _ _ _ _ _ => False) Q fu9 0 [some (.inr (.inl w)), none, some (.inl a)] [] I J from ?_)
  refine ⟨60, ?_⟩
  exact h

theorem l_canHold {d : Nat} (hd : 1 ≤ d) {w : Int64} {n : Int32} {I : mv_I} {J : mv_J} {Q : mv_Q} {N : Nat} (hN : n = nI N) (hN8 : N ≤ 8) (h1 : (∀ k, k < N → bt_ok w k) → Q (some (.inl 1)) I J) (h0 : ¬ (∀ k, k < N → bt_ok w k) → Q (some (.inl 0)) I J) : ∀ (k i fu : Nat) (x : Int32), x = nI i → i + k = N → (∀ j, j < i → bt_ok w j) → 30 * k + 30 ≤ fu → mv_wp (mv_wpM mv_tab mv_sh d) mv_sh none tbX6_canHold flX6 csX6 2 (fun _ _ _ _ _ => False) Q (fu) 2 [some (.inr (.inl w)), none, some (.inl n), some (.inl x)] [] I J := by
  subst hN
  intro k
  induction k with
  | zero =>
    intro i fu x ex hi hb hf
    subst ex
    obtain ⟨fu, rfl⟩ : ∃ z, fu = z + 30 := ⟨fu - 30, by omega⟩
    have e : i = N := by omega
    subst e
    refine And.intro (fun q => ?_) (fun q => absurd (Int32.le_refl _) q)
    exact And.intro (by decide) (h1 hb)
  | succ k ih =>
    intro i fu x ex hi hb hf
    subst ex
    obtain ⟨fu, rfl⟩ : ∃ z, fu = z + 30 := ⟨fu - 30, by omega⟩
    refine And.intro (fun q => absurd q (nI_ge (by omega) (by omega))) (fun q => ?_)
    refine c_byteOf (by omega) (nI i) w ?_
    refine c_isWithin (by omega) (bt_of w (nI i)) 32 126 (fun p => ?_) (fun p => ?_)
    · first | refine And.intro (fun z => absurd z (by decide)) (fun _ => ?_) | refine And.intro (fun _ => ?_) (fun z => absurd z (by decide))
      refine And.intro ?_ trivial
      exact ih (i + 1) _ _ (nI_1 i) (by omega) (fun j hj => by
        by_cases hj2 : j = i
        · subst hj2; exact p
        · exact hb j (by omega)) (by omega)
    · first | refine And.intro (fun z => absurd z (by decide)) (fun _ => ?_) | refine And.intro (fun _ => ?_) (fun z => absurd z (by decide))
      exact And.intro (by decide) (h0 (fun z => p (z i (by omega))))
set_option maxHeartbeats 1000000 in
theorem c_canHold {d : Nat} (hd : 2 ≤ d) (n : Int32) (w : Int64) {I : mv_I} {J : mv_J} {Q : mv_Q} {N : Nat} (hN : n = nI N) (hN8 : N ≤ 8) (h1 : (∀ k, k < N → bt_ok w k) → Q (some (.inl 1)) I J) (h0 : ¬ (∀ k, k < N → bt_ok w k) → Q (some (.inl 0)) I J) : mv_wpM mv_tab mv_sh d 40 [.inr (.inl w), .inl n] I J Q := by
  obtain ⟨d, rfl⟩ : ∃ e, d = e + 1 := ⟨d - 1, by omega⟩
  refine (show ∃ fu9, mv_wp (mv_wpM mv_tab mv_sh d) mv_sh none tbX6_canHold flX6 csX6 2 (fun _ _ _ _ _ => False) Q fu9 0 [some (.inr (.inl w)), none, some (.inl n), none] [] I J from ?_)
  refine ⟨400, ?_⟩
  refine And.intro ?_ trivial
  exact l_canHold (by omega) hN hN8 h1 h0 N 0 _ _ nI_0.symm (by omega) (fun j hj => absurd hj (by omega)) (Nat.le_trans (show 30 * N + 30 ≤ 300 by omega) (Nat.le_of_ble_eq_true rfl))
theorem mi_18 {n : Int32} (h : 1 ≤ n ∧ n ≤ 8) : ∃ N : Nat, N ≤ 8 ∧ n = nI N ∧ n.toNatClampNeg = N := by
  obtain ⟨h1, h2⟩ := h
  have h3 : ¬ n < 0 := by simp only [mi_le, mi_lt] at *; have := mi_l; omega
  obtain ⟨N, hN, e⟩ := nI_of2 (M := 8) (n := 8) (by decide) h3 h2
  exact ⟨N, hN, e, by rw [e]; exact nI_clamp (by omega)⟩
set_option maxHeartbeats 1000000 in
theorem l_append {d : Nat} (hd : 1 ≤ d) {w : Int64} {n : Int32} {J : mv_J} {Q : mv_Q} {I0 : mv_I} {T : Int} (hT : T ≤ 70) (h : ∀ (I' : mv_I), mg_f2 [24] [(2, 2)] I0 I' → (I' 2 2).toInt = T → Q (some (.inl (I' 2 2))) I' J) : ∀ (k fu : Nat) (x : Int32) (I : mv_I), -1 ≤ x.toInt → mg_f2 [24] [(2, 2)] I0 I → 0 ≤ (I 2 2).toInt → (I 2 2).toInt + x.toInt + 1 = T → (x.toInt + 1).toNat < k → 60 * k ≤ fu → mv_wp (mv_wpM mv_tab mv_sh d) mv_sh none tbX6_append flX6 csX6 1 (fun _ _ _ _ _ => False) Q fu 19 [some (.inr (.inr 2)), some (.inr (.inl w)), none, some (.inl n), some (.inl x)] [] I J := by
  intro k
  induction k with
  | zero => intro fu x I h0 h1 h2 h3 h4 hf; omega
  | succ k ih =>
    intro fu x I h0 h1 h2 h3 h4 hf
    obtain ⟨fu, rfl⟩ : ∃ z, fu = z + 60 := ⟨fu - 60, by omega⟩
    refine And.intro (fun q => ?_) (fun q => ?_)
    · exact h _ h1 (by (try simp only [mi_le, mi_lt, mi_eq] at *); have := mi_l; omega)
    · have qx : 0 ≤ x.toInt := by (try simp only [mi_le, mi_lt, mi_eq] at *); have := mi_l; omega
      have e1 : (x + -1).toInt = x.toInt - 1 := mi_dec qx
      have e2 := mi_inc (x := I 2 2) (n := 70) (by omega) (by omega)
      refine c_byteOf (by omega) _ _ ?_
      refine And.intro (vp_in_iff.mpr ⟨by omega, by omega⟩) ?_
      refine And.intro ?_ trivial
      refine ih _ _ _ (by omega) (by repeat (first | exact mg_f2.rf | assumption | refine mg_f2.up ?_ rfl | refine mg_f2.uf ?_ rfl)) ?_ ?_ (by omega) (by omega)
      · show 0 ≤ (I 2 2 + 1).toInt
        omega
      · show (I 2 2 + 1).toInt + (x + -1).toInt + 1 = T
        omega
set_option maxHeartbeats 1000000 in
theorem s_append {d : Nat} (hd : 2 ≤ d) (n : Int32) (w : Int64) {I : mv_I} {J : mv_J} {Q : mv_Q} (hl : rg (I 2 2) 0 70) (hn : rg n 1 8) (h0 : ¬ (I 2 2).toInt + n.toInt ≤ 70 → Q (some (.inl (-3))) I J) (h1 : (I 2 2).toInt + n.toInt ≤ 70 → ∀ (I' : mv_I), mg_f2 [24] [(2, 2)] I I' → (I' 2 2).toInt = (I 2 2).toInt + n.toInt → Q (some (.inl (I' 2 2))) I' J) : mv_wpM mv_tab mv_sh d 41 [.inr (.inr 2), .inr (.inl w), .inl n] I J Q := by
  obtain ⟨d, rfl⟩ : ∃ e, d = e + 1 := ⟨d - 1, by omega⟩
  refine (show ∃ fu9, mv_wp (mv_wpM mv_tab mv_sh d) mv_sh none tbX6_append flX6 csX6 1 (fun _ _ _ _ _ => False) Q fu9 0 [some (.inr (.inr 2)), some (.inr (.inl w)), none, some (.inl n), none] [] I J from ?_)
  refine ⟨600, ?_⟩
  obtain ⟨hl0, hl1⟩ := hl
  obtain ⟨hn0, hn1⟩ := hn
  have c70 : (70 : Int32).toInt = 70 := by decide
  have c1 : (1 : Int32).toInt = 1 := by decide
  have e3 : (70 - I 2 2).toInt = 70 - (I 2 2).toInt := by rw [mi_sub (by omega) (by omega), c70]
  have e4 : (n - 1).toInt = n.toInt - 1 := by rw [mi_sub (by omega) (by omega), c1]
  refine And.intro (fun q => ?_) (fun q => ?_)
  · have qx : n.toInt ≤ (70 - I 2 2).toInt := mi_le.mp q
    refine And.intro ?_ trivial
    exact l_append (by omega) (T := (I 2 2).toInt + n.toInt) (by omega) (h1 (by omega)) 9 _ _ _ (by omega) mg_f2.rf (by omega) (by omega) (by omega) (Nat.le_of_ble_eq_true rfl)
  · exact h0 (fun z => q (mi_le.mpr (by omega)))

def mg_tp (I I' : mv_I) : Prop := mg_f2 [23] [(2, 3)] I I' ∧ I' 2 2 = I 2 2 ∧ 0 ≤ (I' 2 3).toInt
theorem mg_tp.tr {I I' I'' : mv_I} (h : mg_tp I I') (h2 : mg_tp I' I'') : mg_tp I I'' := ⟨h.1.tr h2.1, h2.2.1.trans h.2.1, h2.2.2⟩
theorem mg_tp.at {I I' : mv_I} (h : mg_tp I I') {v : Int32} (hv : 0 ≤ v.toInt) : mg_tp I (va_up I' 2 (upd (I' 2) 3 v)) := ⟨mg_f2.uf h.1 rfl, h.2.1, hv⟩
theorem mg_tp.told {I I' : mv_I} (h : mg_tp I I') {f : Nat → Int32} : mg_tp I (va_up I' 23 f) := ⟨mg_f2.up h.1 rfl, h.2.1, h.2.2⟩
set_option maxHeartbeats 1000000 in
theorem l_skip {d : Nat} {J : mv_J} {Q : mv_Q} {I0 : mv_I} (hl : rg (I0 2 2) 0 70) (h : ∀ (I' : mv_I), mg_tp I0 I' → Q none I' J) : ∀ (k fu : Nat) (I : mv_I), mg_tp I0 I → ((I0 2 2).toInt - (I 2 3).toInt).toNat < k → 40 * k ≤ fu → mv_wp (mv_wpM mv_tab mv_sh d) mv_sh none tbX6_skipBlanks flX6 csX6 0 (fun _ _ _ _ _ => False) Q fu 0 [some (.inr (.inr 2))] [] I J := by
  intro k
  induction k with
  | zero => intro fu I h0 h1 hf; omega
  | succ k ih =>
    intro fu I h0 h1 hf
    obtain ⟨fu, rfl⟩ : ∃ z, fu = z + 40 := ⟨fu - 40, by omega⟩
    have el : I 2 2 = I0 2 2 := h0.2.1
    obtain ⟨hl0, hl1⟩ := id hl
    have ha := h0.2.2
    refine And.intro (fun q => ?_) (fun q => ?_)
    · exact h _ h0
    · have qx : (I 2 3).toInt < (I0 2 2).toInt := by rw [el] at q; (try simp only [mi_le, mi_lt, mi_eq] at *); have := mi_l; omega
      have e1 := mi_incl qx
      refine And.intro (vp_in_iff.mpr ⟨by omega, by omega⟩) ?_
      refine And.intro (fun _ => ?_) (fun _ => ?_)
      · exact h _ h0
      · refine And.intro ?_ trivial
        refine ih _ _ (h0.at (by omega)) ?_ (by omega)
        show ((I0 2 2).toInt - (I 2 3 + 1).toInt).toNat < k
        omega
set_option maxHeartbeats 1000000 in
theorem s_skip {d : Nat} (hd : 1 ≤ d) {I : mv_I} {J : mv_J} {Q : mv_Q} (hl : rg (I 2 2) 0 70) (ha : 0 ≤ (I 2 3).toInt) (h : ∀ (I' : mv_I), mg_tp I I' → Q none I' J) : mv_wpM mv_tab mv_sh d 42 [.inr (.inr 2)] I J Q := by
  obtain ⟨d, rfl⟩ : ∃ e, d = e + 1 := ⟨d - 1, by omega⟩
  refine (show ∃ fu9, mv_wp (mv_wpM mv_tab mv_sh d) mv_sh none tbX6_skipBlanks flX6 csX6 0 (fun _ _ _ _ _ => False) Q fu9 0 [some (.inr (.inr 2))] [] I J from ?_)
  refine ⟨3000, ?_⟩
  exact l_skip hl h 71 _ _ ⟨mg_f2.rf, rfl, ha⟩ (by obtain ⟨hl0, hl1⟩ := hl; omega) (Nat.le_of_ble_eq_true rfl)

set_option maxHeartbeats 1000000 in
theorem l_readNumber {d : Nat} (hd : 1 ≤ d) {a b f : Int32} {J : mv_J} {Q : mv_Q} {I0 : mv_I} (hl : rg (I0 2 2) 0 70) (hf0 : 0 ≤ f.toInt) (h : ∀ (r : Int32) (I' : mv_I), mg_tp I0 I' → (r = -1 ∨ (a ≤ r ∧ r ≤ b)) → Q (some (.inl r)) I' J) : ∀ (k fu : Nat) (m : Int32) (I : mv_I), mg_tp I0 I → ((I0 2 2).toInt - (I 2 3).toInt).toNat < k → 80 * k ≤ fu → mv_wp (mv_wpM mv_tab mv_sh d) mv_sh none tbX6_readNumber flX6 csX6 1 (fun _ _ _ _ _ => False) Q fu 12 [some (.inr (.inr 2)), some (.inl a), some (.inl b), some (.inl f), some (.inl m)] [] I J := by
  intro k
  induction k with
  | zero => intro fu m I h0 h1 hf; omega
  | succ k ih =>
    intro fu m I h0 h1 hf
    obtain ⟨fu, rfl⟩ : ∃ z, fu = z + 80 := ⟨fu - 80, by omega⟩
    have el : I 2 2 = I0 2 2 := h0.2.1
    obtain ⟨hl0, hl1⟩ := id hl
    have ha := h0.2.2
    have EX : ∀ fu, 40 ≤ fu → mv_wp (mv_wpM mv_tab mv_sh d) mv_sh none tbX6_readNumber flX6 csX6 1 (fun _ _ _ _ _ => False) Q fu 89 [some (.inr (.inr 2)), some (.inl a), some (.inl b), some (.inl f), some (.inl m)] [] I J := by
      intro fu hfu
      obtain ⟨fu, rfl⟩ : ∃ z, fu = z + 40 := ⟨fu - 40, by omega⟩
      refine And.intro (fun _ => ?_) (fun _ => ?_)
      · exact h _ _ (h0.at hf0) (Or.inl rfl)
      · refine c_isWithin (by omega) m a b (fun p => ?_) (fun p => ?_)
        · first | refine And.intro (fun z => absurd z (by decide)) (fun _ => ?_) | refine And.intro (fun _ => ?_) (fun z => absurd z (by decide))
          exact h _ _ h0 (Or.inr p)
        · first | refine And.intro (fun z => absurd z (by decide)) (fun _ => ?_) | refine And.intro (fun _ => ?_) (fun z => absurd z (by decide))
          exact h _ _ (h0.at hf0) (Or.inl rfl)
    refine And.intro (fun q => ?_) (fun q => ?_)
    · exact EX _ (by omega)
    · have qx : (I 2 3).toInt < (I0 2 2).toInt := by rw [el] at q; (try simp only [mi_le, mi_lt, mi_eq] at *); have := mi_l; omega
      have e1 := mi_incl qx
      have B : vp_in (I 2 3) 70 := vp_in_iff.mpr ⟨by omega, by omega⟩
      refine And.intro B ?_
      refine And.intro (fun _ => ?_) (fun _ => ?_)
      · exact EX _ (by omega)
      · refine And.intro B ?_
        refine And.intro (fun _ => ?_) (fun _ => ?_)
        · exact EX _ (by omega)
        · refine And.intro B ?_
          refine And.intro ?_ trivial
          refine ih _ _ _ (h0.at (by omega)) ?_ (by omega)
          show ((I0 2 2).toInt - (I 2 3 + 1).toInt).toNat < k
          omega
set_option maxHeartbeats 1000000 in
theorem s_readNumber {d : Nat} (hd : 2 ≤ d) (a b : Int32) {I : mv_I} {J : mv_J} {Q : mv_Q} (hl : rg (I 2 2) 0 70) (ha : 0 ≤ (I 2 3).toInt) (h : ∀ (r : Int32) (I' : mv_I), mg_tp I I' → (r = -1 ∨ (a ≤ r ∧ r ≤ b)) → Q (some (.inl r)) I' J) : mv_wpM mv_tab mv_sh d 43 [.inr (.inr 2), .inl a, .inl b] I J Q := by
  obtain ⟨d, rfl⟩ : ∃ e, d = e + 1 := ⟨d - 1, by omega⟩
  refine (show ∃ fu9, mv_wp (mv_wpM mv_tab mv_sh d) mv_sh none tbX6_readNumber flX6 csX6 1 (fun _ _ _ _ _ => False) Q fu9 0 [some (.inr (.inr 2)), some (.inl a), some (.inl b), none, none] [] I J from ?_)
  refine ⟨6000, ?_⟩
  refine s_skip (by omega) hl ha (fun I2 t2 => ?_)
  refine And.intro ?_ trivial
  exact l_readNumber (by omega) (I0 := I) hl t2.2.2 h 71 _ _ _ t2 (by obtain ⟨hl0, hl1⟩ := hl; have := t2.2.2; omega) (Nat.le_of_ble_eq_true rfl)

set_option maxHeartbeats 1000000 in
theorem s_readSign {d : Nat} (hd : 2 ≤ d) (c : Int32) {I : mv_I} {J : mv_J} {Q : mv_Q} (hl : rg (I 2 2) 0 70) (ha : 0 ≤ (I 2 3).toInt) (h : ∀ (r : Int32) (I' : mv_I), mg_tp I I' → (r = 0 ∨ r = 1) → Q (some (.inl r)) I' J) : mv_wpM mv_tab mv_sh d 44 [.inr (.inr 2), .inl c] I J Q := by
  obtain ⟨d, rfl⟩ : ∃ e, d = e + 1 := ⟨d - 1, by omega⟩
  refine (show ∃ fu9, mv_wp (mv_wpM mv_tab mv_sh d) mv_sh none tbX6_readSign flX6 csX6 2 (fun _ _ _ _ _ => False) Q fu9 0 [some (.inr (.inr 2)), some (.inl c)] [] I J from ?_)
  refine ⟨60, ?_⟩
  refine s_skip (by omega) hl ha (fun I2 t2 => ?_)
  obtain ⟨hl0, hl1⟩ := id hl
  have ha2 := t2.2.2
  have el : I2 2 2 = I 2 2 := t2.2.1
  refine And.intro (fun q => ?_) (fun q => ?_)
  · exact And.intro (Or.inl rfl) (h _ _ t2 (Or.inl rfl))
  · have qx : (I2 2 3).toInt < (I 2 2).toInt := by rw [el] at q; (try simp only [mi_le, mi_lt, mi_eq] at *); have := mi_l; omega
    have e1 := mi_incl qx
    refine And.intro (vp_in_iff.mpr ⟨by omega, by omega⟩) ?_
    refine And.intro (fun _ => ?_) (fun _ => ?_)
    · exact And.intro (Or.inr rfl) (h _ _ (t2.at (by omega)) (Or.inr rfl))
    · exact And.intro (Or.inl rfl) (h _ _ t2 (Or.inl rfl))

set_option maxHeartbeats 1000000 in
theorem s_readPair {d : Nat} (hd : 3 ≤ d) (w : Int32) {I : mv_I} {J : mv_J} {Q : mv_Q} (hw : rg w 0 8) (hl : rg (I 2 2) 0 70) (ha : 0 ≤ (I 2 3).toInt) (h : ∀ (r : Int32) (I' : mv_I), mg_tp I I' → (r = 0 ∨ r = 1) → Q (some (.inl r)) I' J) : mv_wpM mv_tab mv_sh d 45 [.inr (.inr 2), .inl w] I J Q := by
  obtain ⟨d, rfl⟩ : ∃ e, d = e + 1 := ⟨d - 1, by omega⟩
  refine (show ∃ fu9, mv_wp (mv_wpM mv_tab mv_sh d) mv_sh none tbX6_readPair flX6 csX6 2 (fun _ _ _ _ _ => False) Q fu9 0 [some (.inr (.inr 2)), some (.inl w), none, none] [] I J from ?_)
  refine ⟨60, ?_⟩
  obtain ⟨hw0, hw1⟩ := hw
  have c1 : (1 : Int32).toInt = 1 := by decide
  have e4 : (w - 1).toInt = w.toInt - 1 := by rw [mi_sub (by omega) (by omega), c1]
  refine s_readNumber (by omega) _ _ hl ha (fun r I2 t2 hr => ?_)
  refine And.intro (fun q => ?_) (fun q => ?_)
  · exact And.intro (Or.inl rfl) (h _ _ t2 (Or.inl rfl))
  · have hr2 : 0 ≤ r.toInt ∧ r.toInt ≤ w.toInt - 1 := by
      rcases hr with rfl | hr
      · exact absurd (by decide) q
      · obtain ⟨z1, z2⟩ := hr
        rw [mi_le, e4] at z2
        rw [mi_le] at z1
        have := mi_l
        exact ⟨by omega, by omega⟩
    refine s_readSign (by omega) _ (by rw [t2.2.1]; exact hl) t2.2.2 (fun r3 I3 t3 hr3 => ?_)
    refine And.intro (fun q => ?_) (fun q => ?_)
    · refine s_readNumber (by omega) _ _ (by rw [t3.2.1, t2.2.1]; exact hl) t3.2.2 (fun r4 I4 t4 hr4 => ?_)
      refine And.intro (fun q => ?_) (fun q => ?_)
      · refine And.intro (vp_in_iff.mpr ⟨by omega, by omega⟩) ?_
        exact And.intro (Or.inr rfl) (h _ _ ((t2.tr t3).tr t4).told (Or.inr rfl))
      · exact And.intro (Or.inl rfl) (h _ _ ((t2.tr t3).tr t4) (Or.inl rfl))
    · exact And.intro (Or.inl rfl) (h _ _ (t2.tr t3) (Or.inl rfl))

set_option maxHeartbeats 1000000 in
theorem l_readPairs {d : Nat} (hd : 3 ≤ d) {w : Int32} (hw : rg w 0 8) {J : mv_J} {Q : mv_Q} {I0 : mv_I} (hl : rg (I0 2 2) 0 70) (h : ∀ (r : Int32) (I' : mv_I), mg_tp I0 I' → Q (some (.inl r)) I' J) : ∀ (k fu : Nat) (x : Int32) (I : mv_I), mg_tp I0 I → 1 ≤ x.toInt → (9 - x.toInt).toNat < k → 60 * k ≤ fu → mv_wp (mv_wpM mv_tab mv_sh d) mv_sh none tbX6_readPairs flX6 csX6 1 (fun _ _ _ _ _ => False) Q fu 15 [some (.inr (.inr 2)), some (.inl w), some (.inl x)] [] I J := by
  intro k
  induction k with
  | zero => intro fu x I h0 h1 h2 hf; omega
  | succ k ih =>
    intro fu x I h0 h1 h2 hf
    obtain ⟨fu, rfl⟩ : ∃ z, fu = z + 60 := ⟨fu - 60, by omega⟩
    have el : I 2 2 = I0 2 2 := h0.2.1
    obtain ⟨hl0, hl1⟩ := id hl
    have ha := h0.2.2
    refine And.intro (fun q => ?_) (fun q => ?_)
    · exact h _ _ h0
    · have qx : x.toInt ≤ 8 := by (try simp only [mi_le, mi_lt, mi_eq] at *); have := mi_l; omega
      have e1 := mi_inc (x := x) (n := 9) (by omega) (by omega)
      refine s_readPair (by omega) _ hw (by rw [el]; exact hl) ha (fun r2 I2 t2 hr2 => ?_)
      refine And.intro (fun q => ?_) (fun q => ?_)
      · refine s_skip (by omega) (by rw [t2.2.1, el]; exact hl) t2.2.2 (fun I3 t3 => ?_)
        refine And.intro (fun q => ?_) (fun q => ?_)
        · refine And.intro (fun q => ?_) (fun q => ?_)
          · exact h _ _ ((h0.tr t2).tr t3)
          · refine s_readSign (by omega) _ (by rw [t3.2.1, t2.2.1, el]; exact hl) t3.2.2 (fun r4 I4 t4 hr4 => ?_)
            refine And.intro (fun q => ?_) (fun q => ?_)
            · refine And.intro ?_ trivial
              exact ih _ _ _ (((h0.tr t2).tr t3).tr t4) (by omega) (by omega) (by omega)
            · exact h _ _ (((h0.tr t2).tr t3).tr t4)
        · exact h _ _ ((h0.tr t2).tr t3)
      · exact h _ _ (h0.tr t2)
set_option maxHeartbeats 1000000 in
theorem s_readPairs {d : Nat} (hd : 4 ≤ d) (w : Int32) {I : mv_I} {J : mv_J} {Q : mv_Q} (hw : rg w 0 8) (hl : rg (I 2 2) 0 70) (h : ∀ (r : Int32) (I' : mv_I), mg_tp I I' → Q (some (.inl r)) I' J) : mv_wpM mv_tab mv_sh d 46 [.inr (.inr 2), .inl w] I J Q := by
  obtain ⟨d, rfl⟩ : ∃ e, d = e + 1 := ⟨d - 1, by omega⟩
  refine (show ∃ fu9, mv_wp (mv_wpM mv_tab mv_sh d) mv_sh none tbX6_readPairs flX6 csX6 1 (fun _ _ _ _ _ => False) Q fu9 0 [some (.inr (.inr 2)), some (.inl w), none] [] I J from ?_)
  refine ⟨600, ?_⟩
  refine c_fill23 (by omega) 0 ?_
  refine And.intro ?_ trivial
  exact l_readPairs (by omega) hw (I0 := I) hl h 9 _ _ _ ⟨mg_f2.uf (mg_f2.up mg_f2.rf rfl) rfl, rfl, show 0 ≤ (0 : Int32).toInt by decide⟩ (by decide) (by decide) (Nat.le_of_ble_eq_true rfl)

