def bt_of (w : Int64) (x : Int32) : Int32 := (w >>> ((8 * x).toInt64 &&& 63)).toInt32 &&& 255
def bt_ok (w : Int64) (k : Nat) : Prop := 32 ≤ bt_of w (nI k) ∧ bt_of w (nI k) ≤ 126
def vt_ok (w : Int64) (n : Int32) : Prop := (1 ≤ n ∧ n ≤ 8) ∧ ∀ k, k < n.toNatClampNeg → bt_ok w k
theorem bt_and (x : Int64) : (x &&& 255).toInt32 = x.toInt32 &&& 255 := by
  apply Int32.toBitVec_inj.mp
  simp only [Int64.toBitVec_toInt32, Int64.toBitVec_and, Int32.toBitVec_and]
  have e1 : (255 : Int64).toBitVec = 255#64 := rfl
  have e2 : (255 : Int32).toBitVec = 255#32 := rfl
  rw [e1, e2]
  ext i hi
  simp only [BitVec.getElem_signExtend, BitVec.getElem_and, BitVec.getLsbD_and, BitVec.getElem_setWidth]
  have : (255#64).getLsbD i = (255#32)[i] := by
    rw [← BitVec.getLsbD_eq_getElem]
    simp only [BitVec.getLsbD_ofNat]
    simp [show i < 64 by omega, hi]
  simp [show i < 64 by omega]
  rw [show (255#64)[i] = (255#32)[i] from by rw [← BitVec.getLsbD_eq_getElem]; exact this]
theorem mi_dec {x : Int32} (h : 0 ≤ x.toInt) : (x + -1).toInt = x.toInt - 1 := by
  obtain ⟨j, hj, rfl⟩ := nI_of (x := x) (by simp only [mi_lt]; have := mi_l; omega)
  rw [nI_toInt hj]
  cases j with
  | zero => decide
  | succ j => rw [pk_m1, nI_toInt (by omega)]; omega
set_option maxHeartbeats 1000000 in
theorem c_byteOf {d : Nat} (hd : 1 ≤ d) (a : Int32) (w : Int64) {I : mv_I} {J : mv_J} {Q : mv_Q} (h : Q (some (.inl (bt_of w a))) I J) : mv_wpM mv_tab mv_sh d 38 [.inr (.inl w), .inl a] I J Q := by
  obtain ⟨d, rfl⟩ : ∃ e, d = e + 1 := ⟨d - 1, by omega⟩
  refine (show ∃ fu9, mv_wp (mv_wpM mv_tab mv_sh d) mv_sh none tbX6_byteOf flX6 csX6 1 (fun _ _ _ _ _ => False) Q fu9 0 [some (.inr (.inl w)), none, some (.inl a)] [] I J from ?_)
  refine ⟨60, ?_⟩
  exact h

theorem l_canHold {d : Nat} (hd : 1 ≤ d) {w : Int64} {n : Int32} {I : mv_I} {J : mv_J} {Q : mv_Q} {N : Nat} (hN : n = nI N) (hN8 : N ≤ 8) (h1 : (∀ k, k < N → bt_ok w k) → Q (some (.inl 1)) I J) (h0 : ¬ (∀ k, k < N → bt_ok w k) → Q (some (.inl 0)) I J) : ∀ (k i fu : Nat) (x : Int32), x = nI i → i + k = N → (∀ j, j < i → bt_ok w j) → 30 * k + 30 ≤ fu → mv_wp (mv_wpM mv_tab mv_sh d) mv_sh none tbX6_canHold flX6 csX6 2 (fun _ _ _ _ _ => False) Q (fu) 2 [some (.inr (.inl w)), none, some (.inl n), some (.inl x)] [] I J := by
  subst hN
  intro k
  induction k with
  | zero =>
    intro i fu x ex hi hb hf
    subst ex
    obtain ⟨fu, rfl⟩ : ∃ z, fu = z + 30 := ⟨fu - 30, by omega⟩
    have e : i = N := by omega
    subst e
    refine And.intro (fun q => ?_) (fun q => absurd (Int32.le_refl _) q)
    exact And.intro (by decide) (h1 hb)
  | succ k ih =>
    intro i fu x ex hi hb hf
    subst ex
    obtain ⟨fu, rfl⟩ : ∃ z, fu = z + 30 := ⟨fu - 30, by omega⟩
    refine And.intro (fun q => absurd q (nI_ge (by omega) (by omega))) (fun q => ?_)
    refine c_byteOf (by omega) (nI i) w ?_
    refine c_isWithin (by omega) (bt_of w (nI i)) 32 126 (fun p => ?_) (fun p => ?_)
    · first | refine And.intro (fun z => absurd z (by decide)) (fun _ => ?_) | refine And.intro (fun _ => ?_) (fun z => absurd z (by decide))
      refine And.intro ?_ trivial
      exact ih (i + 1) _ _ (nI_1 i) (by omega) (fun j hj => by
        by_cases hj2 : j = i
        · subst hj2; exact p
        · exact hb j (by omega)) (by omega)
    · first | refine And.intro (fun z => absurd z (by decide)) (fun _ => ?_) | refine And.intro (fun _ => ?_) (fun z => absurd z (by decide))
      exact And.intro (by decide) (h0 (fun z => p (z i (by omega))))
set_option maxHeartbeats 1000000 in
theorem c_canHold {d : Nat} (hd : 2 ≤ d) (n : Int32) (w : Int64) {I : mv_I} {J : mv_J} {Q : mv_Q} {N : Nat} (hN : n = nI N) (hN8 : N ≤ 8) (h1 : (∀ k, k < N → bt_ok w k) → Q (some (.inl 1)) I J) (h0 : ¬ (∀ k, k < N → bt_ok w k) → Q (some (.inl 0)) I J) : mv_wpM mv_tab mv_sh d 40 [.inr (.inl w), .inl n] I J Q := by
  obtain ⟨d, rfl⟩ : ∃ e, d = e + 1 := ⟨d - 1, by omega⟩
  refine (show ∃ fu9, mv_wp (mv_wpM mv_tab mv_sh d) mv_sh none tbX6_canHold flX6 csX6 2 (fun _ _ _ _ _ => False) Q fu9 0 [some (.inr (.inl w)), none, some (.inl n), none] [] I J from ?_)
  refine ⟨400, ?_⟩
  refine And.intro ?_ trivial
  exact l_canHold (by omega) hN hN8 h1 h0 N 0 _ _ nI_0.symm (by omega) (fun j hj => absurd hj (by omega)) (Nat.le_trans (show 30 * N + 30 ≤ 300 by omega) (Nat.le_of_ble_eq_true rfl))

theorem l_append {d : Nat} (hd : 1 ≤ d) {w : Int64} {n : Int32} {I0 : mv_I} {J : mv_J} {Q : mv_Q} {N : Nat} (hN8 : N ≤ 8) (h : ∀ I' : mv_I, mv_md I0 I' → Q (some (.inl (nI N))) I' J) : ∀ (k t fu : Nat) (x : Int32) (I : mv_I), x.toInt = (k : Int) - 1 → I 2 2 = nI t → t + k = N → mv_md I0 I → 30 * k + 30 ≤ fu → mv_wp (mv_wpM mv_tab mv_sh d) mv_sh none tbX6_append flX6 csX6 1 (fun _ _ _ _ _ => False) Q (fu) 19 [some (.inr (.inr 2)), some (.inr (.inl w)), none, some (.inl n), some (.inl x)] [] I J := by
  intro k
  induction k with
  | zero =>
    intro t fu x I ex et hi hm hf
    obtain ⟨fu, rfl⟩ : ∃ z, fu = z + 30 := ⟨fu - 30, by omega⟩
    have e : t = N := by omega
    subst e
    have ex2 : x < 0 := by simp only [mi_lt]; have := mi_l; omega
    refine And.intro (fun q => ?_) (fun q => absurd ex2 q)
    have hh := h I hm
    rw [← et] at hh
    exact hh
  | succ k ih =>
    intro t fu x I ex et hi hm hf
    obtain ⟨fu, rfl⟩ : ∃ z, fu = z + 30 := ⟨fu - 30, by omega⟩
    have ex2 : ¬ x < 0 := by simp only [mi_lt]; have := mi_l; omega
    refine And.intro (fun q => absurd q ex2) (fun q => ?_)
    refine c_byteOf (by omega) x w ?_
    refine And.intro (by rw [et]; exact vp_in_nI (by omega) (by decide)) ?_
    refine And.intro ?_ trivial
    refine ih (t + 1) _ _ _ ?_ ?_ (by omega) ((hm.up (by decide)).up (by decide)) (by omega)
    · rw [mi_dec (by omega)]; omega
    · simp only [va_up_self, pk_us]
      rw [va_up_ne _ _ (by decide), et, nI_1]
set_option maxHeartbeats 1000000 in
theorem c_append {d : Nat} (hd : 2 ≤ d) (n : Int32) (w : Int64) {I : mv_I} {J : mv_J} {Q : mv_Q} {N : Nat} (hN : n = nI N) (hN8 : N ≤ 8) (f : I 2 2 = 0) (h : ∀ I' : mv_I, mv_md I I' → Q (some (.inl (nI N))) I' J) : mv_wpM mv_tab mv_sh d 41 [.inr (.inr 2), .inr (.inl w), .inl n] I J Q := by
  obtain ⟨d, rfl⟩ : ∃ e, d = e + 1 := ⟨d - 1, by omega⟩
  refine (show ∃ fu9, mv_wp (mv_wpM mv_tab mv_sh d) mv_sh none tbX6_append flX6 csX6 1 (fun _ _ _ _ _ => False) Q fu9 0 [some (.inr (.inr 2)), some (.inr (.inl w)), none, some (.inl n), none] [] I J from ?_)
  refine ⟨400, ?_⟩
  subst hN
  refine And.intro (fun q => ?_) (fun q => absurd (show nI N ≤ 70 - I 2 2 by rw [f, show (70 - 0 : Int32) = nI 70 by decide]; exact nI_le (by omega) (by decide)) q)
  refine And.intro ?_ trivial
  refine l_append (by omega) hN8 h N 0 _ _ _ ?_ (f.trans nI_0.symm) (by omega) mv_md.rf (Nat.le_trans (show 30 * N + 30 ≤ 300 by omega) (Nat.le_of_ble_eq_true rfl))
  cases N with
  | zero => decide
  | succ N => rw [nI_pred, nI_toInt (by omega)]; omega

theorem mi_18 {n : Int32} (h : 1 ≤ n ∧ n ≤ 8) : ∃ N : Nat, N ≤ 8 ∧ n = nI N ∧ n.toNatClampNeg = N := by
  simp only [mi_le] at h
  have := mi_l
  obtain ⟨j, hj, e⟩ := nI_of (x := n) (by simp only [mi_lt]; omega)
  have e2 := nI_toInt hj
  rw [← e] at e2
  exact ⟨j, by omega, e, by rw [e]; exact nI_clamp hj⟩
set_option maxHeartbeats 1000000 in
theorem f_type {d : Nat} (hd : 4 ≤ d) (n : Int32) (w : Int64) {I : mv_I} {J : mv_J} {Q : mv_Q} (fr : mv_fr I) (h : ∀ (r : Int32) (I' : mv_I), mv_md I I' → (vt_ok w n ∧ r = n ∨ ¬ vt_ok w n ∧ r = -1) → Q (some (.inl r)) I' J) : mv_wpM mv_tab mv_sh d 60 [.inr (.inr 0), .inr (.inl w), .inl n] I J Q := by
  obtain ⟨d, rfl⟩ : ∃ e, d = e + 1 := ⟨d - 1, by omega⟩
  refine (show ∃ fu9, mv_wp (mv_wpM mv_tab mv_sh d) mv_sh none tbX7_type flX7 csX7 1 (fun _ _ _ _ _ => False) Q fu9 0 [some (.inr (.inr 0)), some (.inr (.inl w)), none, some (.inl n)] [] I J from ?_)
  refine ⟨60, ?_⟩
  obtain ⟨f1, f2, f3, f4, f5, f6, f7, f8, f9, f10, f11, f12, f13, f14⟩ := fr
  refine c_isWithin (by omega) n 1 8 (fun p => ?_) (fun p => ?_)
  · first | refine And.intro (fun z => absurd z (by decide)) (fun _ => ?_) | refine And.intro (fun _ => ?_) (fun z => absurd z (by decide))
    obtain ⟨N, hN8, hN, hc⟩ := mi_18 p
    refine c_canHold (by omega) n w hN hN8 (fun q => ?_) (fun q => ?_)
    · first | refine And.intro (fun z => absurd z (by decide)) (fun _ => ?_) | refine And.intro (fun _ => ?_) (fun z => absurd z (by decide))
      exact c_append (by omega) n w hN hN8 f5 (fun I' m => h _ _ m (Or.inl ⟨⟨p, by rw [hc]; exact q⟩, hN.symm⟩))
    · first | refine And.intro (fun z => absurd z (by decide)) (fun _ => ?_) | refine And.intro (fun _ => ?_) (fun z => absurd z (by decide))
      exact h _ _ mv_md.rf (Or.inr ⟨fun z => q (by have := z.2; rwa [hc] at this), rfl⟩)
  · first | refine And.intro (fun z => absurd z (by decide)) (fun _ => ?_) | refine And.intro (fun _ => ?_) (fun z => absurd z (by decide))
    exact h _ _ mv_md.rf (Or.inr ⟨fun z => p z.1, rfl⟩)

theorem l_typeB {d : Nat} (hd : 1 ≤ d) {w : Int64} {J : mv_J} {Q : mv_Q} {N : Nat} (hN8 : N ≤ 8) (h : ∀ I' : mv_I, Q (some (.inl (nI N))) I' J) : ∀ (k t fu : Nat) (x : Int32) (I : mv_I), x.toInt = (k : Int) - 1 → I 12 20 = nI t → t + k = N → 40 * k + 30 ≤ fu → mv_wp (mv_wpM mv_tab mv_sh d) mv_sh none tbX8_type flX8 csX8 1 (fun _ _ _ _ _ => False) Q (fu) 70 [some (.inr (.inr 12)), some (.inr (.inl w)), none, some (.inl (nI N)), some (.inl x)] [] I J := by
  intro k
  induction k with
  | zero =>
    intro t fu x I ex et hi hf
    obtain ⟨fu, rfl⟩ : ∃ z, fu = z + 30 := ⟨fu - 30, by omega⟩
    have e : t = N := by omega
    subst e
    have ex2 : x < 0 := by simp only [mi_lt]; have := mi_l; omega
    refine And.intro (fun q => ?_) (fun q => absurd ex2 q)
    have hh := h I
    rw [← et] at hh
    exact hh
  | succ k ih =>
    intro t fu x I ex et hi hf
    obtain ⟨fu, rfl⟩ : ∃ z, fu = z + 40 := ⟨fu - 40, by omega⟩
    have ex2 : ¬ x < 0 := by simp only [mi_lt]; have := mi_l; omega
    refine And.intro (fun q => absurd q ex2) (fun q => ?_)
    refine And.intro (by rw [et]; exact vp_in_nI (by omega) (by decide)) ?_
    refine And.intro ?_ trivial
    refine ih (t + 1) _ _ _ ?_ ?_ (by omega) (by omega)
    · rw [mi_dec (by omega)]; omega
    · simp only [va_up_self, pk_us]
      rw [va_up_ne _ _ (by decide), et, nI_1]
theorem l_typeA {d : Nat} (hd : 1 ≤ d) {w : Int64} {I : mv_I} {J : mv_J} {Q : mv_Q} {N : Nat} (hN8 : N ≤ 8) (f : I 12 20 = 0) (h1 : (∀ k, k < N → bt_ok w k) → ∀ I' : mv_I, Q (some (.inl (nI N))) I' J) (h0 : ¬ (∀ k, k < N → bt_ok w k) → Q (some (.inl (-1))) I J) : ∀ (k i fu : Nat) (x : Int32), x = nI i → i + k = N → (∀ j, j < i → bt_ok w j) → 30 * k + 600 ≤ fu → mv_wp (mv_wpM mv_tab mv_sh d) mv_sh none tbX8_type flX8 csX8 1 (fun _ _ _ _ _ => False) Q (fu) 15 [some (.inr (.inr 12)), some (.inr (.inl w)), none, some (.inl (nI N)), some (.inl x)] [] I J := by
  intro k
  induction k with
  | zero =>
    intro i fu x ex hi hb hf
    subst ex
    obtain ⟨fu, rfl⟩ : ∃ z, fu = z + 30 := ⟨fu - 30, by omega⟩
    have e : i = N := by omega
    subst e
    refine And.intro (fun q => ?_) (fun q => absurd (Int32.le_refl _) q)
    have e1 : I 12 20 + nI i ≤ 70 := by rw [f, Int32.zero_add, show (70 : Int32) = nI 70 by decide]; exact nI_le (by omega) (by decide)
    first | refine And.intro (fun q => ?_) (fun q => absurd e1 q) | refine And.intro (fun q => absurd e1 q) (fun q => ?_)
    refine And.intro ?_ trivial
    refine l_typeB hd hN8 (h1 hb) i 0 _ _ _ ?_ (f.trans nI_0.symm) (by omega) (by omega)
    cases i with
    | zero => decide
    | succ i => rw [nI_pred, nI_toInt (by omega)]; omega
  | succ k ih =>
    intro i fu x ex hi hb hf
    subst ex
    obtain ⟨fu, rfl⟩ : ∃ z, fu = z + 30 := ⟨fu - 30, by omega⟩
    refine And.intro (fun q => absurd q (nI_ge (by omega) (by omega))) (fun q => ?_)
    refine c_in (by omega) _ 32 126 (fun p => ?_) (fun p => ?_)
    · first | refine And.intro (fun z => absurd z (by decide)) (fun _ => ?_) | refine And.intro (fun _ => ?_) (fun z => absurd z (by decide))
      rw [bt_and] at p
      refine And.intro ?_ trivial
      exact ih (i + 1) _ _ (nI_1 i) (by omega) (fun j hj => by
        by_cases hj2 : j = i
        · subst hj2; exact p
        · exact hb j (by omega)) (by omega)
    · first | refine And.intro (fun z => absurd z (by decide)) (fun _ => ?_) | refine And.intro (fun _ => ?_) (fun z => absurd z (by decide))
      rw [bt_and] at p
      exact h0 (fun z => p (z i (by omega)))
set_option maxHeartbeats 1000000 in
theorem g_type {d : Nat} (hd : 4 ≤ d) (n : Int32) (w : Int64) {I : mv_I} {J : mv_J} {Q : mv_Q} (fm : mv_fm I) (h : ∀ (r : Int32) (I' : mv_I) (J' : mv_J), (vt_ok w n ∧ r = n ∨ ¬ vt_ok w n ∧ r = -1) → Q (some (.inl r)) I' J') : mv_wpM mv_tab mv_sh d 100 [.inr (.inr 12), .inr (.inl w), .inl n] I J Q := by
  obtain ⟨d, rfl⟩ : ∃ e, d = e + 1 := ⟨d - 1, by omega⟩
  refine (show ∃ fu9, mv_wp (mv_wpM mv_tab mv_sh d) mv_sh none tbX8_type flX8 csX8 1 (fun _ _ _ _ _ => False) Q fu9 0 [some (.inr (.inr 12)), some (.inr (.inl w)), none, some (.inl n), none] [] I J from ?_)
  refine ⟨1000, ?_⟩
  obtain ⟨f1, f2, f3, f4, f5, f6, f7, f8, f9, f10, f11⟩ := fm
  refine c_in (by omega) n 1 8 (fun p => ?_) (fun p => ?_)
  · first | refine And.intro (fun z => absurd z (by decide)) (fun _ => ?_) | refine And.intro (fun _ => ?_) (fun z => absurd z (by decide))
    obtain ⟨N, hN8, hN, hc⟩ := mi_18 p
    subst hN
    refine And.intro ?_ trivial
    exact l_typeA (by omega) hN8 f6 (fun q I' => h _ _ _ (Or.inl ⟨⟨p, by rw [hc]; exact q⟩, rfl⟩)) (fun q => h _ _ _ (Or.inr ⟨fun z => q (by have := z.2; rwa [hc] at this), rfl⟩)) N 0 _ _ nI_0.symm (by omega) (fun j hj => absurd hj (by omega)) (Nat.le_trans (show 30 * N + 600 ≤ 900 by omega) (Nat.le_of_ble_eq_true rfl))
  · first | refine And.intro (fun z => absurd z (by decide)) (fun _ => ?_) | refine And.intro (fun _ => ?_) (fun z => absurd z (by decide))
    exact h _ _ _ (Or.inr ⟨fun z => p z.1, rfl⟩)

