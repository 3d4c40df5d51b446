/-! sums of rows, purely -/
def hl (f : Nat → Int32) (s : Nat) : Nat → Int32
  | 0 => 0
  | n + 1 => hl f s n + f (60 * s + n)
def hh (f : Nat → Int32) (l : Nat) : Nat → Int32
  | 0 => 0
  | n + 1 => hh f l n + f (60 * n + l)
def sm1 (f : Nat → Int32) : Nat → Int32
  | 0 => 0
  | n + 1 => sm1 f n + f n
def gsm (f g : Nat → Int32) (s : Nat) : Nat → Int32
  | 0 => 0
  | n + 1 => gsm f g s n + f (60 * s + n) * g n
theorem ix_c {a b : Int32} (ha : rg a 0 5) (hb : rg b 0 59) : (a * 60 + b).toNatClampNeg = 60 * a.toNatClampNeg + b.toNatClampNeg := by
  have h := mi_360 ha hb
  have k1 := mi_cl ha.1
  have k2 := mi_cl hb.1
  have b0 := hb.1
  have a0 := ha.1
  have k3 := mi_cl (x := a * 60 + b) (by omega)
  omega
theorem ix_r {a b : Int32} (ha : rg a 0 5) (hb : rg b 0 59) : (60 * a + b).toNatClampNeg = 60 * a.toNatClampNeg + b.toNatClampNeg := by
  have h := mi_360r ha hb
  have k1 := mi_cl ha.1
  have k2 := mi_cl hb.1
  have b0 := hb.1
  have a0 := ha.1
  have k3 := mi_cl (x := 60 * a + b) (by omega)
  omega
theorem rgn {i M : Nat} (h : i ≤ M) (hM : M < 2147483648) : rg (nI i) 0 (M : Int) := by
  have e := nI_toInt (n := i) (by omega)
  exact ⟨by omega, by omega⟩
set_option maxHeartbeats 1000000 in
theorem x_hh {d : Nat} {a : Int32} {I : mv_I} {J : mv_J} {Q : mv_Q} (ha : rg a 0 59) (h : Q (some (.inl (hh (I 72) a.toNatClampNeg 6))) I J) : ∀ (k fu i : Nat) (m x : Int32), x = nI i → i + k = 6 → m = hh (I 72) a.toNatClampNeg i → 40 * (k + 1) ≤ fu → mv_wp (mv_wpM mv_tab mv_sh d) mv_sh none tbX8_inHolds flX8 csX8 1 (fun _ _ _ _ _ => False) Q fu 4 [some (.inr (.inr 12)), some (.inl a), some (.inl m), some (.inl x)] [] I J := by
  intro k
  induction k with
  | zero =>
    intro fu i m x ex hi em hf
    obtain ⟨fu, rfl⟩ : ∃ z, fu = z + 40 := ⟨fu - 40, by omega⟩
    have ei : i = 6 := by omega
    subst ei ex em
    refine And.intro (fun q => ?_) (fun q => ?_)
    · exact h
    · exact absurd (by decide +kernel) q
  | succ k ih =>
    intro fu i m x ex hi em hf
    obtain ⟨fu, rfl⟩ : ∃ z, fu = z + 40 := ⟨fu - 40, by omega⟩
    subst ex
    have c6 : (6 : Int32).toInt = 6 := by decide
    have ti : (nI i).toInt = i := nI_toInt (by omega)
    have ri : rg (nI i) 0 5 := rgn (M := 5) (by omega) (by omega)
    have ci : (nI i).toNatClampNeg = i := nI_clamp (by omega)
    refine And.intro (fun q => ?_) (fun q => ?_)
    · rw [mi_le, c6, ti] at q
      omega
    · refine And.intro (mi_360r ri ha).1 ?_
      refine And.intro ?_ trivial
      exact ih _ (i + 1) _ _ (nI_1 i) (by omega) (by rw [em, ix_r ri ha, ci]; rfl) (by omega)
set_option maxHeartbeats 1000000 in
theorem e_hh {d : Nat} (hd : 1 ≤ d) (a : Int32) {I : mv_I} {J : mv_J} {Q : mv_Q} (ha : rg a 0 59) (h : Q (some (.inl (hh (I 72) a.toNatClampNeg 6))) I J) : mv_wpM mv_tab mv_sh d 86 [.inr (.inr 12), .inl a] I J Q := by
  obtain ⟨d, rfl⟩ : ∃ e, d = e + 1 := ⟨d - 1, by omega⟩
  refine (show ∃ fu9, mv_wp (mv_wpM mv_tab mv_sh d) mv_sh none tbX8_inHolds flX8 csX8 1 (fun _ _ _ _ _ => False) Q fu9 0 [some (.inr (.inr 12)), some (.inl a), none, none] [] I J from ?_)
  refine ⟨300, ?_⟩
  refine And.intro ?_ trivial
  exact x_hh ha h 6 _ 0 _ _ nI_0.symm (by omega) rfl (Nat.le_of_ble_eq_true rfl)
set_option maxHeartbeats 1000000 in
theorem x_hl {d : Nat} {a : Int32} {I : mv_I} {J : mv_J} {Q : mv_Q} {M : Nat} (ha : rg a 0 5) (hM : M ≤ 60) (eM : I 12 4 = nI M) (h : Q (some (.inl (hl (I 72) a.toNatClampNeg M))) I J) : ∀ (k fu i : Nat) (m x : Int32), x = nI i → i + k = M → m = hl (I 72) a.toNatClampNeg i → 40 * (k + 1) ≤ fu → mv_wp (mv_wpM mv_tab mv_sh d) mv_sh none tbX8_inHold flX8 csX8 1 (fun _ _ _ _ _ => False) Q fu 4 [some (.inr (.inr 12)), some (.inl a), some (.inl m), some (.inl x)] [] I J := by
  intro k
  induction k with
  | zero =>
    intro fu i m x ex hi em hf
    obtain ⟨fu, rfl⟩ : ∃ z, fu = z + 40 := ⟨fu - 40, by omega⟩
    have ei : i = M := by omega
    subst ei ex em
    refine And.intro (fun q => ?_) (fun q => ?_)
    · exact h
    · exact absurd (by rw [eM]; exact Int32.le_refl _) q
  | succ k ih =>
    intro fu i m x ex hi em hf
    obtain ⟨fu, rfl⟩ : ∃ z, fu = z + 40 := ⟨fu - 40, by omega⟩
    subst ex
    have ri : rg (nI i) 0 59 := rgn (M := 59) (by omega) (by omega)
    have ci : (nI i).toNatClampNeg = i := nI_clamp (by omega)
    refine And.intro (fun q => ?_) (fun q => ?_)
    · rw [eM] at q
      exact absurd q (nI_ge (by omega) (by omega))
    · refine And.intro (mi_360r ha ri).1 ?_
      refine And.intro ?_ trivial
      exact ih _ (i + 1) _ _ (nI_1 i) (by omega) (by rw [em, ix_r ha ri, ci]; rfl) (by omega)
set_option maxHeartbeats 1000000 in
theorem e_hl {d : Nat} (hd : 1 ≤ d) (a : Int32) {I : mv_I} {J : mv_J} {Q : mv_Q} {M : Nat} (ha : rg a 0 5) (hM : M ≤ 60) (eM : I 12 4 = nI M) (h : Q (some (.inl (hl (I 72) a.toNatClampNeg M))) I J) : mv_wpM mv_tab mv_sh d 107 [.inr (.inr 12), .inl a] I J Q := by
  obtain ⟨d, rfl⟩ : ∃ e, d = e + 1 := ⟨d - 1, by omega⟩
  refine (show ∃ fu9, mv_wp (mv_wpM mv_tab mv_sh d) mv_sh none tbX8_inHold flX8 csX8 1 (fun _ _ _ _ _ => False) Q fu9 0 [some (.inr (.inr 12)), some (.inl a), none, none] [] I J from ?_)
  refine ⟨2600, ?_⟩
  refine And.intro ?_ trivial
  exact x_hl ha hM eM h M _ 0 _ _ nI_0.symm (by omega) rfl (Nat.le_trans (show 40 * (M + 1) ≤ 2440 by omega) (Nat.le_of_ble_eq_true rfl))
set_option maxHeartbeats 1000000 in
theorem x_sm28 {d : Nat} {I : mv_I} {J : mv_J} {Q : mv_Q} {M : Nat} (hM : M ≤ 60) (eM : I 3 6 = nI M) (h : Q (some (.inl (sm1 (I 28) M))) I J) : ∀ (k fu i : Nat) (m x : Int32), x = nI i → i + k = M → m = sm1 (I 28) i → 40 * (k + 1) ≤ fu → mv_wp (mv_wpM mv_tab mv_sh d) mv_sh none tbX1_sumOf flX1 csX1 1 (fun _ _ _ _ _ => False) Q fu 4 [some (.inr (.inr 3)), some (.inr (.inr 28)), some (.inl m), some (.inl x)] [] I J := by
  intro k
  induction k with
  | zero =>
    intro fu i m x ex hi em hf
    obtain ⟨fu, rfl⟩ : ∃ z, fu = z + 40 := ⟨fu - 40, by omega⟩
    have ei : i = M := by omega
    subst ei ex em
    refine And.intro (fun q => ?_) (fun q => ?_)
    · exact h
    · exact absurd (by rw [eM]; exact Int32.le_refl _) q
  | succ k ih =>
    intro fu i m x ex hi em hf
    obtain ⟨fu, rfl⟩ : ∃ z, fu = z + 40 := ⟨fu - 40, by omega⟩
    subst ex
    have ci : (nI i).toNatClampNeg = i := nI_clamp (by omega)
    refine And.intro (fun q => ?_) (fun q => ?_)
    · rw [eM] at q
      exact absurd q (nI_ge (by omega) (by omega))
    · refine And.intro (vp_in_nI (by omega) (by decide)) ?_
      refine And.intro ?_ trivial
      exact ih _ (i + 1) _ _ (nI_1 i) (by omega) (by rw [em, ci]; rfl) (by omega)
set_option maxHeartbeats 1000000 in
theorem e_sm28 {d : Nat} (hd : 1 ≤ d) {I : mv_I} {J : mv_J} {Q : mv_Q} {M : Nat} (hM : M ≤ 60) (eM : I 3 6 = nI M) (h : Q (some (.inl (sm1 (I 28) M))) I J) : mv_wpM mv_tab mv_sh d 12 [.inr (.inr 3), .inr (.inr 28)] I J Q := by
  obtain ⟨d, rfl⟩ : ∃ e, d = e + 1 := ⟨d - 1, by omega⟩
  refine (show ∃ fu9, mv_wp (mv_wpM mv_tab mv_sh d) mv_sh none tbX1_sumOf flX1 csX1 1 (fun _ _ _ _ _ => False) Q fu9 0 [some (.inr (.inr 3)), some (.inr (.inr 28)), none, none] [] I J from ?_)
  refine ⟨2600, ?_⟩
  refine And.intro ?_ trivial
  exact x_sm28 hM eM h M _ 0 _ _ nI_0.symm (by omega) rfl (Nat.le_trans (show 40 * (M + 1) ≤ 2440 by omega) (Nat.le_of_ble_eq_true rfl))
set_option maxHeartbeats 1000000 in
theorem x_sm29 {d : Nat} {I : mv_I} {J : mv_J} {Q : mv_Q} {M : Nat} (hM : M ≤ 60) (eM : I 3 6 = nI M) (h : Q (some (.inl (sm1 (I 29) M))) I J) : ∀ (k fu i : Nat) (m x : Int32), x = nI i → i + k = M → m = sm1 (I 29) i → 40 * (k + 1) ≤ fu → mv_wp (mv_wpM mv_tab mv_sh d) mv_sh none tbX1_sumOf flX1 csX1 1 (fun _ _ _ _ _ => False) Q fu 4 [some (.inr (.inr 3)), some (.inr (.inr 29)), some (.inl m), some (.inl x)] [] I J := by
  intro k
  induction k with
  | zero =>
    intro fu i m x ex hi em hf
    obtain ⟨fu, rfl⟩ : ∃ z, fu = z + 40 := ⟨fu - 40, by omega⟩
    have ei : i = M := by omega
    subst ei ex em
    refine And.intro (fun q => ?_) (fun q => ?_)
    · exact h
    · exact absurd (by rw [eM]; exact Int32.le_refl _) q
  | succ k ih =>
    intro fu i m x ex hi em hf
    obtain ⟨fu, rfl⟩ : ∃ z, fu = z + 40 := ⟨fu - 40, by omega⟩
    subst ex
    have ci : (nI i).toNatClampNeg = i := nI_clamp (by omega)
    refine And.intro (fun q => ?_) (fun q => ?_)
    · rw [eM] at q
      exact absurd q (nI_ge (by omega) (by omega))
    · refine And.intro (vp_in_nI (by omega) (by decide)) ?_
      refine And.intro ?_ trivial
      exact ih _ (i + 1) _ _ (nI_1 i) (by omega) (by rw [em, ci]; rfl) (by omega)
set_option maxHeartbeats 1000000 in
theorem e_sm29 {d : Nat} (hd : 1 ≤ d) {I : mv_I} {J : mv_J} {Q : mv_Q} {M : Nat} (hM : M ≤ 60) (eM : I 3 6 = nI M) (h : Q (some (.inl (sm1 (I 29) M))) I J) : mv_wpM mv_tab mv_sh d 12 [.inr (.inr 3), .inr (.inr 29)] I J Q := by
  obtain ⟨d, rfl⟩ : ∃ e, d = e + 1 := ⟨d - 1, by omega⟩
  refine (show ∃ fu9, mv_wp (mv_wpM mv_tab mv_sh d) mv_sh none tbX1_sumOf flX1 csX1 1 (fun _ _ _ _ _ => False) Q fu9 0 [some (.inr (.inr 3)), some (.inr (.inr 29)), none, none] [] I J from ?_)
  refine ⟨2600, ?_⟩
  refine And.intro ?_ trivial
  exact x_sm29 hM eM h M _ 0 _ _ nI_0.symm (by omega) rfl (Nat.le_trans (show 40 * (M + 1) ≤ 2440 by omega) (Nat.le_of_ble_eq_true rfl))
set_option maxHeartbeats 1000000 in
theorem x_sm30 {d : Nat} {I : mv_I} {J : mv_J} {Q : mv_Q} {M : Nat} (hM : M ≤ 60) (eM : I 3 6 = nI M) (h : Q (some (.inl (sm1 (I 30) M))) I J) : ∀ (k fu i : Nat) (m x : Int32), x = nI i → i + k = M → m = sm1 (I 30) i → 40 * (k + 1) ≤ fu → mv_wp (mv_wpM mv_tab mv_sh d) mv_sh none tbX1_sumOf flX1 csX1 1 (fun _ _ _ _ _ => False) Q fu 4 [some (.inr (.inr 3)), some (.inr (.inr 30)), some (.inl m), some (.inl x)] [] I J := by
  intro k
  induction k with
  | zero =>
    intro fu i m x ex hi em hf
    obtain ⟨fu, rfl⟩ : ∃ z, fu = z + 40 := ⟨fu - 40, by omega⟩
    have ei : i = M := by omega
    subst ei ex em
    refine And.intro (fun q => ?_) (fun q => ?_)
    · exact h
    · exact absurd (by rw [eM]; exact Int32.le_refl _) q
  | succ k ih =>
    intro fu i m x ex hi em hf
    obtain ⟨fu, rfl⟩ : ∃ z, fu = z + 40 := ⟨fu - 40, by omega⟩
    subst ex
    have ci : (nI i).toNatClampNeg = i := nI_clamp (by omega)
    refine And.intro (fun q => ?_) (fun q => ?_)
    · rw [eM] at q
      exact absurd q (nI_ge (by omega) (by omega))
    · refine And.intro (vp_in_nI (by omega) (by decide)) ?_
      refine And.intro ?_ trivial
      exact ih _ (i + 1) _ _ (nI_1 i) (by omega) (by rw [em, ci]; rfl) (by omega)
set_option maxHeartbeats 1000000 in
theorem e_sm30 {d : Nat} (hd : 1 ≤ d) {I : mv_I} {J : mv_J} {Q : mv_Q} {M : Nat} (hM : M ≤ 60) (eM : I 3 6 = nI M) (h : Q (some (.inl (sm1 (I 30) M))) I J) : mv_wpM mv_tab mv_sh d 12 [.inr (.inr 3), .inr (.inr 30)] I J Q := by
  obtain ⟨d, rfl⟩ : ∃ e, d = e + 1 := ⟨d - 1, by omega⟩
  refine (show ∃ fu9, mv_wp (mv_wpM mv_tab mv_sh d) mv_sh none tbX1_sumOf flX1 csX1 1 (fun _ _ _ _ _ => False) Q fu9 0 [some (.inr (.inr 3)), some (.inr (.inr 30)), none, none] [] I J from ?_)
  refine ⟨2600, ?_⟩
  refine And.intro ?_ trivial
  exact x_sm30 hM eM h M _ 0 _ _ nI_0.symm (by omega) rfl (Nat.le_trans (show 40 * (M + 1) ≤ 2440 by omega) (Nat.le_of_ble_eq_true rfl))
/-! told, held, grade, count -/
def tds (b v0 v1 v2 v3 v4 v5 : Int32) : Int32 := if b = 0 then v0 else if b = 1 then v1 else if b = 2 then v2 else if b = 3 then v3 else if b = 4 then v4 else if b = 5 then v5 else -1
theorem tds_d {b v0 v1 v2 v3 v4 v5 : Int32} (h : b.toInt < 0 ∨ 5 < b.toInt) : tds b v0 v1 v2 v3 v4 v5 = -1 := by
  have l := mi_l
  have c3 : (3 : Int32).toInt = 3 := by decide
  have n : ∀ k : Int32, 0 ≤ k.toInt → k.toInt ≤ 5 → ¬ b = k := fun k h1 h2 e => by rw [e] at h; omega
  unfold tds
  rw [if_neg (n 0 (by decide) (by decide)), if_neg (n 1 (by decide) (by decide)), if_neg (n 2 (by decide) (by decide)), if_neg (n 3 (by decide) (by decide)), if_neg (n 4 (by decide) (by decide)), if_neg (n 5 (by decide) (by decide))]
def tdR (ok : Prop) (v r : Int32) : Prop := (¬ ok ∧ r = -1) ∨ (ok ∧ r = v)
set_option maxHeartbeats 1000000 in
theorem E_told {d : Nat} (hd : 4 ≤ d) (a b : Int32) {I : mv_I} {J : mv_J} {Q : mv_Q} (sc : SC I) (h : ∀ (r : Int32), tdR (0 ≤ a ∧ a < I 3 6) (tds b (I 25 a.toNatClampNeg) (I 26 a.toNatClampNeg) (I 28 a.toNatClampNeg) (I 29 a.toNatClampNeg) (I 30 a.toNatClampNeg) (I 27 a.toNatClampNeg)) r → Q (some (.inl r)) I J) : mv_wpM mv_tab mv_sh d 51 [.inr (.inr 0), .inl a, .inl b] I J Q := by
  obtain ⟨d, rfl⟩ : ∃ e, d = e + 1 := ⟨d - 1, by omega⟩
  refine (show ∃ fu9, mv_wp (mv_wpM mv_tab mv_sh d) mv_sh none tbX7_told flX7 csX7 1 (fun _ _ _ _ _ => False) Q fu9 0 [some (.inr (.inr 0)), some (.inl a), some (.inl b)] [] I J from ?_)
  refine ⟨60, ?_⟩
  obtain ⟨s1, s2, s3, s4, s5, s6, s7, s8, s9, s10, s11, s12⟩ := id sc
  refine c_hasLot (by omega) a (fun p1 => ?_) (fun p1 => ?_)
  · first | refine And.intro (fun z => absurd z (by decide)) (fun _ => ?_) | refine And.intro (fun _ => ?_) (fun z => absurd z (by decide))
    have ha : rg a 0 59 := mg_lt p1 s5.2
    have B : vp_in a 60 := vp_in_iff.mpr ⟨ha.1, by have := ha.2; omega⟩
    have eq : ∀ (k : Int32), b.toInt = k.toInt → b = k := fun k e => mi_eq.mpr e
    refine And.intro (fun q => h _ (Or.inr ⟨p1, (tds_d q).symm⟩)) (And.intro (fun q => ?_) (And.intro (fun q => ?_) (And.intro (fun q => ?_) (And.intro (fun q => ?_) (And.intro (fun q => ?_) (And.intro (fun q => ?_) trivial))))))
    · have e := eq 0 (q.trans (by decide)); subst e; exact And.intro B (h _ (Or.inr ⟨p1, rfl⟩))
    · have e := eq 1 (q.trans (by decide)); subst e; exact And.intro B (h _ (Or.inr ⟨p1, rfl⟩))
    · have e := eq 2 (q.trans (by decide)); subst e; exact And.intro B (h _ (Or.inr ⟨p1, rfl⟩))
    · have e := eq 3 (q.trans (by decide)); subst e; exact And.intro B (h _ (Or.inr ⟨p1, rfl⟩))
    · have e := eq 4 (q.trans (by decide)); subst e; exact And.intro B (h _ (Or.inr ⟨p1, rfl⟩))
    · have e := eq 5 (q.trans (by decide)); subst e; exact And.intro B (h _ (Or.inr ⟨p1, rfl⟩))
  · first | refine And.intro (fun z => absurd z (by decide)) (fun _ => ?_) | refine And.intro (fun _ => ?_) (fun z => absurd z (by decide))
    exact h _ (Or.inl ⟨p1, rfl⟩)
set_option maxHeartbeats 1000000 in
theorem E2_told {d : Nat} (hd : 4 ≤ d) (a b : Int32) {I : mv_I} {J : mv_J} {Q : mv_Q} (sm : SM I) (h : ∀ (r : Int32), tdR (0 ≤ a ∧ a < I 12 4) (tds b (I 53 a.toNatClampNeg) (I 54 a.toNatClampNeg) (I 55 a.toNatClampNeg) (I 56 a.toNatClampNeg) (hh (I 72) a.toNatClampNeg 6) (I 57 a.toNatClampNeg)) r → Q (some (.inl r)) I J) : mv_wpM mv_tab mv_sh d 87 [.inr (.inr 12), .inl a, .inl b] I J Q := by
  obtain ⟨d, rfl⟩ : ∃ e, d = e + 1 := ⟨d - 1, by omega⟩
  refine (show ∃ fu9, mv_wp (mv_wpM mv_tab mv_sh d) mv_sh none tbX8_told flX8 csX8 1 (fun _ _ _ _ _ => False) Q fu9 0 [some (.inr (.inr 12)), some (.inl a), some (.inl b)] [] I J from ?_)
  refine ⟨80, ?_⟩
  obtain ⟨t1, t2, t3, t4, t5, t6, t7, t8, t9, t10⟩ := id sm
  refine c8_isLot (by omega) a (fun p1 => ?_) (fun p1 => ?_)
  · first | refine And.intro (fun z => absurd z (by decide)) (fun _ => ?_) | refine And.intro (fun _ => ?_) (fun z => absurd z (by decide))
    have ok := (lw_iff t5.1).mp p1
    have ha : rg a 0 59 := (mr_lt t5.1 p1 t5.2).1
    have B : vp_in a 60 := vp_in_iff.mpr ⟨ha.1, by have := ha.2; omega⟩
    have c0 : (0 : Int32).toInt = 0 := by decide
    have c5 : (5 : Int32).toInt = 5 := by decide
    refine c_in (by omega) b 0 5 (fun p2 => ?_) (fun p2 => ?_)
    · first | refine And.intro (fun z => absurd z (by decide)) (fun _ => ?_) | refine And.intro (fun _ => ?_) (fun z => absurd z (by decide))
      refine And.intro (fun q0 => ?_) (fun q0 => ?_)
      · refine And.intro (fun q1 => ?_) (fun q1 => ?_)
        · refine And.intro (fun q2 => ?_) (fun q2 => ?_)
          · refine And.intro (fun q3 => ?_) (fun q3 => ?_)
            · refine And.intro (fun q4 => ?_) (fun q4 => ?_)
              · have e : b = 5 := by
                  rw [mi_le, mi_le, c0, c5] at p2
                  refine mi_eq.mpr ?_
                  rw [c5]
                  have n0 : ¬ b.toInt = 0 := fun z => q0 (mi_eq.mpr (z.trans c0.symm))
                  have n1 : ¬ b.toInt = 1 := fun z => q1 (mi_eq.mpr (z.trans (by decide)))
                  have n2 : ¬ b.toInt = 2 := fun z => q2 (mi_eq.mpr (z.trans (by decide)))
                  have n3 : ¬ b.toInt = 3 := fun z => q3 (mi_eq.mpr (z.trans (by decide)))
                  have n4 : ¬ b.toInt = 4 := fun z => q4 (mi_eq.mpr (z.trans (by decide)))
                  omega
                subst e
                exact And.intro B (h _ (Or.inr ⟨ok, rfl⟩))
              · subst q4
                exact e_hh (by omega) a ha (h _ (Or.inr ⟨ok, rfl⟩))
            · subst q3
              exact And.intro B (h _ (Or.inr ⟨ok, rfl⟩))
          · subst q2
            exact And.intro B (h _ (Or.inr ⟨ok, rfl⟩))
        · subst q1
          exact And.intro B (h _ (Or.inr ⟨ok, rfl⟩))
      · subst q0
        exact And.intro B (h _ (Or.inr ⟨ok, rfl⟩))
    · first | refine And.intro (fun z => absurd z (by decide)) (fun _ => ?_) | refine And.intro (fun _ => ?_) (fun z => absurd z (by decide))
      refine h _ (Or.inr ⟨ok, (tds_d ?_).symm⟩)
      rw [mi_le, mi_le, c0, c5] at p2
      omega
  · first | refine And.intro (fun z => absurd z (by decide)) (fun _ => ?_) | refine And.intro (fun _ => ?_) (fun z => absurd z (by decide))
    exact h _ (Or.inl ⟨fun z => p1 ((lw_iff t5.1).mpr z), rfl⟩)
def hdR (S L : Prop) (b v1 v2 r : Int32) : Prop := (¬ S ∧ r = -1) ∨ (S ∧ b = -1 ∧ r = v1) ∨ (S ∧ ¬ b = -1 ∧ ¬ L ∧ r = -1) ∨ (S ∧ ¬ b = -1 ∧ L ∧ r = v2)
set_option maxHeartbeats 1000000 in
theorem E_held {d : Nat} (hd : 4 ≤ d) (a b : Int32) {I : mv_I} {J : mv_J} {Q : mv_Q} (sc : SC I) (h : ∀ (r : Int32), hdR (0 ≤ a ∧ a < I 4 7) (0 ≤ b ∧ b < I 3 6) b (I 36 a.toNatClampNeg) (I 37 (60 * a.toNatClampNeg + b.toNatClampNeg)) r → Q (some (.inl r)) I J) : mv_wpM mv_tab mv_sh d 65 [.inr (.inr 0), .inl a, .inl b] I J Q := by
  obtain ⟨d, rfl⟩ : ∃ e, d = e + 1 := ⟨d - 1, by omega⟩
  refine (show ∃ fu9, mv_wp (mv_wpM mv_tab mv_sh d) mv_sh none tbX7_held flX7 csX7 1 (fun _ _ _ _ _ => False) Q fu9 0 [some (.inr (.inr 0)), some (.inl a), some (.inl b)] [] I J from ?_)
  refine ⟨60, ?_⟩
  obtain ⟨s1, s2, s3, s4, s5, s6, s7, s8, s9, s10, s11, s12⟩ := id sc
  refine c_hasShip (by omega) a (fun p1 => ?_) (fun p1 => ?_)
  · first | refine And.intro (fun z => absurd z (by decide)) (fun _ => ?_) | refine And.intro (fun _ => ?_) (fun z => absurd z (by decide))
    have ha : rg a 0 5 := mg_lt p1 s7.1.2
    have B : vp_in a 6 := vp_in_iff.mpr ⟨ha.1, by have := ha.2; omega⟩
    refine And.intro (fun q1 => ?_) (fun q1 => ?_)
    · refine And.intro (fun q2 => absurd q1 q2) (fun q2 => ?_)
      exact And.intro B (h _ (Or.inr (Or.inl ⟨p1, q1, rfl⟩)))
    · refine c_hasLot (by omega) b (fun p2 => ?_) (fun p2 => ?_)
      · first | refine And.intro (fun z => absurd z (by decide)) (fun _ => ?_) | refine And.intro (fun _ => ?_) (fun z => absurd z (by decide))
        have hb : rg b 0 59 := mg_lt p2 s5.2
        refine And.intro (fun q2 => ?_) (fun q2 => absurd q2 q1)
        exact s_stowedOf (by omega) a b ha hb (h _ (Or.inr (Or.inr (Or.inr ⟨p1, q1, p2, by rw [ix_c ha hb]⟩))))
      · first | refine And.intro (fun z => absurd z (by decide)) (fun _ => ?_) | refine And.intro (fun _ => ?_) (fun z => absurd z (by decide))
        exact h _ (Or.inr (Or.inr (Or.inl ⟨p1, q1, p2, rfl⟩)))
  · first | refine And.intro (fun z => absurd z (by decide)) (fun _ => ?_) | refine And.intro (fun _ => ?_) (fun z => absurd z (by decide))
    exact h _ (Or.inl ⟨p1, rfl⟩)
set_option maxHeartbeats 1000000 in
theorem E2_held {d : Nat} (hd : 4 ≤ d) (a b : Int32) {I : mv_I} {J : mv_J} {Q : mv_Q} (sm : SM I) (h : ∀ (r : Int32), hdR (0 ≤ a ∧ a < I 12 24) (0 ≤ b ∧ b < I 12 4) b (hl (I 72) a.toNatClampNeg (I 12 4).toNatClampNeg) (I 72 (60 * a.toNatClampNeg + b.toNatClampNeg)) r → Q (some (.inl r)) I J) : mv_wpM mv_tab mv_sh d 109 [.inr (.inr 12), .inl a, .inl b] I J Q := by
  obtain ⟨d, rfl⟩ : ∃ e, d = e + 1 := ⟨d - 1, by omega⟩
  refine (show ∃ fu9, mv_wp (mv_wpM mv_tab mv_sh d) mv_sh none tbX8_held flX8 csX8 1 (fun _ _ _ _ _ => False) Q fu9 0 [some (.inr (.inr 12)), some (.inl a), some (.inl b)] [] I J from ?_)
  refine ⟨60, ?_⟩
  obtain ⟨t1, t2, t3, t4, t5, t6, t7, t8, t9, t10⟩ := id sm
  refine c8_isShip (by omega) a (fun p1 => ?_) (fun p1 => ?_)
  · first | refine And.intro (fun z => absurd z (by decide)) (fun _ => ?_) | refine And.intro (fun _ => ?_) (fun z => absurd z (by decide))
    have o1 := (lw_iff t7.1.1).mp p1
    have ha : rg a 0 5 := (mr_lt t7.1.1 p1 t7.1.2).1
    refine And.intro (fun q1 => ?_) (fun q1 => ?_)
    · refine And.intro (fun q2 => absurd q1 q2) (fun q2 => ?_)
      exact e_hl (by omega) a ha (le8 t5 (by omega)) (mi_nI t5.1).symm (h _ (Or.inr (Or.inl ⟨o1, q1, rfl⟩)))
    · refine c8_isLot (by omega) b (fun p2 => ?_) (fun p2 => ?_)
      · first | refine And.intro (fun z => absurd z (by decide)) (fun _ => ?_) | refine And.intro (fun _ => ?_) (fun z => absurd z (by decide))
        have hb : rg b 0 59 := (mr_lt t5.1 p2 t5.2).1
        refine And.intro (fun q2 => ?_) (fun q2 => absurd q2 q1)
        exact And.intro (mi_360r ha hb).1 (h _ (Or.inr (Or.inr (Or.inr ⟨o1, q1, (lw_iff t5.1).mp p2, by rw [ix_r ha hb]⟩))))
      · first | refine And.intro (fun z => absurd z (by decide)) (fun _ => ?_) | refine And.intro (fun _ => ?_) (fun z => absurd z (by decide))
        exact h _ (Or.inr (Or.inr (Or.inl ⟨o1, q1, fun z => p2 ((lw_iff t5.1).mpr z), rfl⟩)))
  · first | refine And.intro (fun z => absurd z (by decide)) (fun _ => ?_) | refine And.intro (fun _ => ?_) (fun z => absurd z (by decide))
    exact h _ (Or.inl ⟨fun z => p1 ((lw_iff t7.1.1).mpr z), rfl⟩)
set_option maxHeartbeats 1000000 in
theorem x_gr2 {d : Nat} (hd : 1 ≤ d) {a s : Int32} {I : mv_I} {J : mv_J} {Q : mv_Q} {M : Nat} (ha : rg a 0 5) (hs : ¬ s = 0) (hM : M ≤ 60) (eM : I 3 6 = nI M) (h : Q (some (.inl (gsm (I 37) (I 26) a.toNatClampNeg M / s))) I J) : ∀ (k fu i : Nat) (m x : Int32), x = nI i → i + k = M → m = gsm (I 37) (I 26) a.toNatClampNeg i → 60 * (k + 1) ≤ fu → mv_wp (mv_wpM mv_tab mv_sh d) mv_sh none tbX7_grade flX7 csX7 1 (fun _ _ _ _ _ => False) Q fu 35 [some (.inr (.inr 0)), some (.inl a), some (.inl s), some (.inl m), some (.inl x)] [] I J := by
  intro k
  induction k with
  | zero =>
    intro fu i m x ex hi em hf
    obtain ⟨fu, rfl⟩ : ∃ z, fu = z + 60 := ⟨fu - 60, by omega⟩
    have ei : i = M := by omega
    subst ei ex em
    refine And.intro (fun q => ?_) (fun q => ?_)
    · exact And.intro hs h
    · exact absurd (by rw [eM]; exact Int32.le_refl _) q
  | succ k ih =>
    intro fu i m x ex hi em hf
    obtain ⟨fu, rfl⟩ : ∃ z, fu = z + 60 := ⟨fu - 60, by omega⟩
    subst ex
    have ri : rg (nI i) 0 59 := rgn (M := 59) (by omega) (by omega)
    have ci : (nI i).toNatClampNeg = i := nI_clamp (by omega)
    refine And.intro (fun q => ?_) (fun q => ?_)
    · rw [eM] at q
      exact absurd q (nI_ge (by omega) (by omega))
    · refine s_stowedOf (by omega) a (nI i) ha ri ?_
      refine And.intro (vp_in_nI (by omega) (by decide)) ?_
      refine And.intro ?_ trivial
      exact ih _ (i + 1) _ _ (nI_1 i) (by omega) (by rw [em, ix_c ha ri, ci]; rfl) (by omega)
def grR (S : Prop) (s v r : Int32) : Prop := (¬ S ∧ r = -1) ∨ (S ∧ s.toInt ≤ 0 ∧ r = -2) ∨ (S ∧ 0 < s.toInt ∧ r = v / s)
set_option maxHeartbeats 1000000 in
theorem E_grade {d : Nat} (hd : 4 ≤ d) (a : Int32) {I : mv_I} {J : mv_J} {Q : mv_Q} (sc : SC I) (h : ∀ (r : Int32), grR (0 ≤ a ∧ a < I 4 7) (I 36 a.toNatClampNeg) (gsm (I 37) (I 26) a.toNatClampNeg (I 3 6).toNatClampNeg) r → Q (some (.inl r)) I J) : mv_wpM mv_tab mv_sh d 66 [.inr (.inr 0), .inl a] I J Q := by
  obtain ⟨d, rfl⟩ : ∃ e, d = e + 1 := ⟨d - 1, by omega⟩
  refine (show ∃ fu9, mv_wp (mv_wpM mv_tab mv_sh d) mv_sh none tbX7_grade flX7 csX7 1 (fun _ _ _ _ _ => False) Q fu9 0 [some (.inr (.inr 0)), some (.inl a), none, none, none] [] I J from ?_)
  refine ⟨3800, ?_⟩
  obtain ⟨s1, s2, s3, s4, s5, s6, s7, s8, s9, s10, s11, s12⟩ := id sc
  have c0 : (0 : Int32).toInt = 0 := by decide
  refine c_hasShip (by omega) a (fun p1 => ?_) (fun p1 => ?_)
  · first | refine And.intro (fun z => absurd z (by decide)) (fun _ => ?_) | refine And.intro (fun _ => ?_) (fun z => absurd z (by decide))
    have ha : rg a 0 5 := mg_lt p1 s7.1.2
    have B : vp_in a 6 := vp_in_iff.mpr ⟨ha.1, by have := ha.2; omega⟩
    refine And.intro B ?_
    refine And.intro (fun q1 => ?_) (fun q1 => ?_)
    · have q2 := q1
      rw [mi_lt, c0] at q2
      refine And.intro ?_ trivial
      exact x_gr2 (by omega) ha (by intro z; rw [z] at q1; exact absurd q1 (by decide)) (le8 s5 (by omega)) (mi_nI s5.1).symm (h _ (Or.inr (Or.inr ⟨p1, q2, rfl⟩))) (I 3 6).toNatClampNeg _ 0 _ _ nI_0.symm (by omega) rfl (Nat.le_trans (show 60 * ((I 3 6).toNatClampNeg + 1) ≤ 3660 by have := le8 (M := 60) s5 (by omega); omega) (Nat.le_of_ble_eq_true rfl))
    · rw [mi_lt, c0] at q1
      exact h _ (Or.inr (Or.inl ⟨p1, by omega, rfl⟩))
  · first | refine And.intro (fun z => absurd z (by decide)) (fun _ => ?_) | refine And.intro (fun _ => ?_) (fun z => absurd z (by decide))
    exact h _ (Or.inl ⟨p1, rfl⟩)
set_option maxHeartbeats 1000000 in
theorem x_rgr {d : Nat} {a s : Int32} {I : mv_I} {J : mv_J} {Q : mv_Q} {M : Nat} (ha : rg a 0 5) (hM : M ≤ 60) (eM : I 12 4 = nI M) (h0 : s = 0 → Q (some (.inl (-2))) I J) (h1 : ¬ s = 0 → Q (some (.inl (gsm (I 72) (I 54) a.toNatClampNeg M / s))) I J) : ∀ (k fu i : Nat) (m x : Int32), x = nI i → i + k = M → m = gsm (I 72) (I 54) a.toNatClampNeg i → 60 * (k + 1) ≤ fu → mv_wp (mv_wpM mv_tab mv_sh d) mv_sh none tbX8_grade flX8 csX8 1 (fun _ _ _ _ _ => False) Q fu 21 [some (.inr (.inr 12)), some (.inl a), some (.inl s), some (.inl m), some (.inl x)] [] I J := by
  intro k
  induction k with
  | zero =>
    intro fu i m x ex hi em hf
    obtain ⟨fu, rfl⟩ : ∃ z, fu = z + 60 := ⟨fu - 60, by omega⟩
    have ei : i = M := by omega
    subst ei ex em
    refine And.intro (fun q => ?_) (fun q => ?_)
    · refine And.intro (fun q2 => ?_) (fun q2 => ?_)
      · exact And.intro q2 (h1 q2)
      · exact h0 q2
    · exact absurd (by rw [eM]; exact Int32.le_refl _) q
  | succ k ih =>
    intro fu i m x ex hi em hf
    obtain ⟨fu, rfl⟩ : ∃ z, fu = z + 60 := ⟨fu - 60, by omega⟩
    subst ex
    have ri : rg (nI i) 0 59 := rgn (M := 59) (by omega) (by omega)
    have ci : (nI i).toNatClampNeg = i := nI_clamp (by omega)
    refine And.intro (fun q => ?_) (fun q => ?_)
    · rw [eM] at q
      exact absurd q (nI_ge (by omega) (by omega))
    · refine And.intro (vp_in_nI (by omega) (by decide)) ?_
      refine And.intro (mi_360r ha ri).1 ?_
      refine And.intro ?_ trivial
      exact ih _ (i + 1) _ _ (nI_1 i) (by omega) (by rw [em, ix_r ha ri, ci, Int32.mul_comm]; rfl) (by omega)
def grM (S : Prop) (s v r : Int32) : Prop := (¬ S ∧ r = -1) ∨ (S ∧ s = 0 ∧ r = -2) ∨ (S ∧ ¬ s = 0 ∧ r = v / s)
set_option maxHeartbeats 1000000 in
theorem E2_grade {d : Nat} (hd : 4 ≤ d) (a : Int32) {I : mv_I} {J : mv_J} {Q : mv_Q} (sm : SM I) (h : ∀ (r : Int32), grM (0 ≤ a ∧ a < I 12 24) (hl (I 72) a.toNatClampNeg (I 12 4).toNatClampNeg) (gsm (I 72) (I 54) a.toNatClampNeg (I 12 4).toNatClampNeg) r → Q (some (.inl r)) I J) : mv_wpM mv_tab mv_sh d 110 [.inr (.inr 12), .inl a] I J Q := by
  obtain ⟨d, rfl⟩ : ∃ e, d = e + 1 := ⟨d - 1, by omega⟩
  refine (show ∃ fu9, mv_wp (mv_wpM mv_tab mv_sh d) mv_sh none tbX8_grade flX8 csX8 1 (fun _ _ _ _ _ => False) Q fu9 0 [some (.inr (.inr 12)), some (.inl a), none, none, none] [] I J from ?_)
  refine ⟨3800, ?_⟩
  obtain ⟨t1, t2, t3, t4, t5, t6, t7, t8, t9, t10⟩ := id sm
  refine c8_isShip (by omega) a (fun p1 => ?_) (fun p1 => ?_)
  · first | refine And.intro (fun z => absurd z (by decide)) (fun _ => ?_) | refine And.intro (fun _ => ?_) (fun z => absurd z (by decide))
    have o1 := (lw_iff t7.1.1).mp p1
    have ha : rg a 0 5 := (mr_lt t7.1.1 p1 t7.1.2).1
    refine e_hl (by omega) a ha (le8 t5 (by omega)) (mi_nI t5.1).symm ?_
    refine And.intro ?_ trivial
    exact x_rgr ha (le8 t5 (by omega)) (mi_nI t5.1).symm (fun q => h _ (Or.inr (Or.inl ⟨o1, q, rfl⟩))) (fun q => h _ (Or.inr (Or.inr ⟨o1, q, rfl⟩))) (I 12 4).toNatClampNeg _ 0 _ _ nI_0.symm (by omega) rfl (Nat.le_trans (show 60 * ((I 12 4).toNatClampNeg + 1) ≤ 3660 by have := le8 (M := 60) t5 (by omega); omega) (Nat.le_of_ble_eq_true rfl))
  · first | refine And.intro (fun z => absurd z (by decide)) (fun _ => ?_) | refine And.intro (fun _ => ?_) (fun z => absurd z (by decide))
    exact h _ (Or.inl ⟨fun z => p1 ((lw_iff t7.1.1).mpr z), rfl⟩)
def cns (b v0 v1 v2 v3 v4 v5 v6 v7 : Int32) : Int32 := if b = 0 then v0 else if b = 1 then v1 else if b = 2 then v2 else if b = 3 then v3 else if b = 4 then v4 else if b = 5 then v5 else if b = 6 then v6 else if b = 7 then v7 else -1
theorem cns_d {b v0 v1 v2 v3 v4 v5 v6 v7 : Int32} (h : b.toInt < 0 ∨ 7 < b.toInt) : cns b v0 v1 v2 v3 v4 v5 v6 v7 = -1 := by
  have n : ∀ k : Int32, 0 ≤ k.toInt → k.toInt ≤ 7 → ¬ b = k := fun k h1 h2 e => by rw [e] at h; omega
  unfold cns
  rw [if_neg (n 0 (by decide) (by decide)), if_neg (n 1 (by decide) (by decide)), if_neg (n 2 (by decide) (by decide)), if_neg (n 3 (by decide) (by decide)), if_neg (n 4 (by decide) (by decide)), if_neg (n 5 (by decide) (by decide)), if_neg (n 6 (by decide) (by decide)), if_neg (n 7 (by decide) (by decide))]
set_option maxHeartbeats 1000000 in
theorem E_count {d : Nat} (hd : 4 ≤ d) (a : Int32) {I : mv_I} {J : mv_J} {Q : mv_Q} (sc : SC I) (h : Q (some (.inl (cns a (I 1 2) (I 3 6) (I 1 9) (I 4 7) (I 0 7) (sm1 (I 28) (I 3 6).toNatClampNeg) (sm1 (I 29) (I 3 6).toNatClampNeg) (sm1 (I 30) (I 3 6).toNatClampNeg)))) I J) : mv_wpM mv_tab mv_sh d 74 [.inr (.inr 0), .inl a] I J Q := by
  obtain ⟨d, rfl⟩ : ∃ e, d = e + 1 := ⟨d - 1, by omega⟩
  refine (show ∃ fu9, mv_wp (mv_wpM mv_tab mv_sh d) mv_sh none tbX7_count flX7 csX7 1 (fun _ _ _ _ _ => False) Q fu9 0 [some (.inr (.inr 0)), some (.inl a)] [] I J from ?_)
  refine ⟨60, ?_⟩
  obtain ⟨s1, s2, s3, s4, s5, s6, s7, s8, s9, s10, s11, s12⟩ := id sc
  have eq : ∀ (k : Int32), a.toInt = k.toInt → a = k := fun k e => mi_eq.mpr e
  refine And.intro (fun q => ?_) (And.intro (fun q => ?_) (And.intro (fun q => ?_) (And.intro (fun q => ?_) (And.intro (fun q => ?_) (And.intro (fun q => ?_) (And.intro (fun q => ?_) (And.intro (fun q => ?_) (And.intro (fun q => ?_) trivial))))))))
  · rw [cns_d q] at h; exact h
  · have e := eq 0 (q.trans (by decide)); subst e; exact h
  · have e := eq 1 (q.trans (by decide)); subst e; exact h
  · have e := eq 2 (q.trans (by decide)); subst e; exact h
  · have e := eq 3 (q.trans (by decide)); subst e; exact h
  · have e := eq 4 (q.trans (by decide)); subst e; exact h
  · have e := eq 5 (q.trans (by decide)); subst e; exact e_sm28 (by omega) (le8 s5 (by omega)) (mi_nI s5.1).symm h
  · have e := eq 6 (q.trans (by decide)); subst e; exact e_sm29 (by omega) (le8 s5 (by omega)) (mi_nI s5.1).symm h
  · have e := eq 7 (q.trans (by decide)); subst e; exact e_sm30 (by omega) (le8 s5 (by omega)) (mi_nI s5.1).symm h
def cnf (a : Int32) (I : mv_I) (l : Nat) : Int32 := if a = 5 then I 55 l else if a = 6 then I 56 l else if a = 7 then hh (I 72) l 6 else 0
set_option maxHeartbeats 1000000 in
theorem x_rcn {d : Nat} (hd : 1 ≤ d) {a : Int32} {I : mv_I} {J : mv_J} {Q : mv_Q} {M : Nat} (hM : M ≤ 60) (eM : I 12 4 = nI M) (h : Q (some (.inl (cns a (I 12 0) (I 12 4) (I 12 11) (I 12 24) (I 12 3) (sm1 (cnf a I) M) (sm1 (cnf a I) M) (sm1 (cnf a I) M)))) I J) : ∀ (k fu i : Nat) (m x : Int32), x = nI i → i + k = M → m = sm1 (cnf a I) i → 60 * (k + 1) ≤ fu → mv_wp (mv_wpM mv_tab mv_sh d) mv_sh none tbX8_count flX8 csX8 1 (fun _ _ _ _ _ => False) Q fu 4 [some (.inr (.inr 12)), some (.inl a), some (.inl m), some (.inl x)] [] I J := by
  have eq : ∀ (k : Int32), a.toInt = k.toInt → a = k := fun k e => mi_eq.mpr e
  intro k
  induction k with
  | zero =>
    intro fu i m x ex hi em hf
    obtain ⟨fu, rfl⟩ : ∃ z, fu = z + 60 := ⟨fu - 60, by omega⟩
    have ei : i = M := by omega
    subst ei ex em
    refine And.intro (fun q => ?_) (fun q => ?_)
    · refine And.intro (fun q => ?_) (And.intro (fun q => ?_) (And.intro (fun q => ?_) (And.intro (fun q => ?_) (And.intro (fun q => ?_) (And.intro (fun q => ?_) (And.intro (fun q => ?_) (And.intro (fun q => ?_) (And.intro (fun q => ?_) trivial))))))))
      · rw [cns_d q] at h; exact h
      · have e := eq 0 (q.trans (by decide)); subst e; exact h
      · have e := eq 1 (q.trans (by decide)); subst e; exact h
      · have e := eq 2 (q.trans (by decide)); subst e; exact h
      · have e := eq 3 (q.trans (by decide)); subst e; exact h
      · have e := eq 4 (q.trans (by decide)); subst e; exact h
      · have e := eq 5 (q.trans (by decide)); subst e; exact h
      · have e := eq 6 (q.trans (by decide)); subst e; exact h
      · have e := eq 7 (q.trans (by decide)); subst e; exact h
    · exact absurd (by rw [eM]; exact Int32.le_refl _) q
  | succ k ih =>
    intro fu i m x ex hi em hf
    obtain ⟨fu, rfl⟩ : ∃ z, fu = z + 60 := ⟨fu - 60, by omega⟩
    subst ex
    have ri : rg (nI i) 0 59 := rgn (M := 59) (by omega) (by omega)
    have ci : (nI i).toNatClampNeg = i := nI_clamp (by omega)
    have B : vp_in (nI i) 60 := vp_in_nI (by omega) (by decide)
    have N : ∀ (fu : Nat) (v : Int32), v = cnf a I i → 60 * (k + 1) ≤ fu → mv_wp (mv_wpM mv_tab mv_sh d) mv_sh none tbX8_count flX8 csX8 1 (fun _ _ _ _ _ => False) Q fu 4 [some (.inr (.inr 12)), some (.inl a), some (.inl (m + v)), some (.inl (nI i + 1))] [] I J := fun fu v ev hf => ih _ (i + 1) _ _ (nI_1 i) (by omega) (by rw [em, ev]; rfl) hf
    refine And.intro (fun q => ?_) (fun q => ?_)
    · rw [eM] at q
      exact absurd q (nI_ge (by omega) (by omega))
    · refine And.intro (fun q5 => ?_) (fun q5 => ?_)
      · refine And.intro (fun q6 => ?_) (fun q6 => ?_)
        · refine And.intro (fun q7 => ?_) (fun q7 => ?_)
          · refine And.intro ?_ trivial
            exact N _ _ (by unfold cnf; rw [if_neg q5, if_neg q6, if_neg q7]) (by omega)
          · refine e_hh (by omega) (nI i) ri ?_
            refine And.intro ?_ trivial
            exact N _ _ (by unfold cnf; rw [if_neg q5, if_neg q6, if_pos q7, ci]) (by omega)
        · refine And.intro B ?_
          refine And.intro ?_ trivial
          exact N _ _ (by unfold cnf; rw [if_neg q5, if_pos q6, ci]) (by omega)
      · refine And.intro B ?_
        refine And.intro ?_ trivial
        exact N _ _ (by unfold cnf; rw [if_pos q5, ci]) (by omega)
set_option maxHeartbeats 1000000 in
theorem E2_count {d : Nat} (hd : 4 ≤ d) (a : Int32) {I : mv_I} {J : mv_J} {Q : mv_Q} (sm : SM I) (h : Q (some (.inl (cns a (I 12 0) (I 12 4) (I 12 11) (I 12 24) (I 12 3) (sm1 (cnf a I) (I 12 4).toNatClampNeg) (sm1 (cnf a I) (I 12 4).toNatClampNeg) (sm1 (cnf a I) (I 12 4).toNatClampNeg)))) I J) : mv_wpM mv_tab mv_sh d 122 [.inr (.inr 12), .inl a] I J Q := by
  obtain ⟨d, rfl⟩ : ∃ e, d = e + 1 := ⟨d - 1, by omega⟩
  refine (show ∃ fu9, mv_wp (mv_wpM mv_tab mv_sh d) mv_sh none tbX8_count flX8 csX8 1 (fun _ _ _ _ _ => False) Q fu9 0 [some (.inr (.inr 12)), some (.inl a), none, none] [] I J from ?_)
  refine ⟨3800, ?_⟩
  obtain ⟨t1, t2, t3, t4, t5, t6, t7, t8, t9, t10⟩ := id sm
  refine And.intro ?_ trivial
  exact x_rcn (by omega) (le8 t5 (by omega)) (mi_nI t5.1).symm h (I 12 4).toNatClampNeg _ 0 _ _ nI_0.symm (by omega) rfl (Nat.le_trans (show 60 * ((I 12 4).toNatClampNeg + 1) ≤ 3660 by have := le8 (M := 60) t5 (by omega); omega) (Nat.le_of_ble_eq_true rfl))
/-! load -/
def okd (a b c S L : Int32) : Prop := (0 ≤ a ∧ a < S) ∧ (0 ≤ b ∧ b < L) ∧ 1 ≤ c
/-- load: port, free room, quota's values, shipped, what stays, what is done -/
def ldR (ok : Prop) (c port free : Int32) (V : Int → Prop) (s : Int) (S D : Prop) (r : Int32) : Prop := (¬ ok ∧ r = -1 ∧ S) ∨ (ok ∧ port < c ∧ r = -2 ∧ S) ∨ (ok ∧ ¬ port < c ∧ free < c ∧ r = -2 ∧ S) ∨ (ok ∧ ¬ port < c ∧ ¬ free < c ∧ ∃ v, V v ∧ ((v - s < c.toInt ∧ r = -2 ∧ S) ∨ (¬ v - s < c.toInt ∧ D)))
def ldS (I I' : mv_I) : Prop := I' 14 = I 14 ∧ I' 29 = I 29 ∧ I' 30 = I 30 ∧ I' 36 = I 36 ∧ I' 37 = I 37
def ldD (I I' : mv_I) (a b c r : Int32) : Prop := r = I 37 (60 * a.toNatClampNeg + b.toNatClampNeg) + c ∧ I' 14 = upd (I 14) (I 25 b.toNatClampNeg).toNatClampNeg (I 14 (I 25 b.toNatClampNeg).toNatClampNeg + c) ∧ I' 29 = upd (I 29) b.toNatClampNeg (I 29 b.toNatClampNeg - c) ∧ I' 30 = upd (I 30) b.toNatClampNeg (I 30 b.toNatClampNeg + c) ∧ I' 36 = upd (I 36) a.toNatClampNeg (I 36 a.toNatClampNeg + c) ∧ I' 37 = upd (I 37) (60 * a.toNatClampNeg + b.toNatClampNeg) (I 37 (60 * a.toNatClampNeg + b.toNatClampNeg) + c)
set_option maxHeartbeats 1000000 in
theorem e_stow {d : Nat} (hd : 2 ≤ d) (a b c : Int32) {I : mv_I} {J : mv_J} {Q : mv_Q} (ha : rg a 0 5) (hb : rg b 0 59) (h : Q (some (.inl (I 37 (60 * a.toNatClampNeg + b.toNatClampNeg) + c))) (va_up (va_up I 36 (upd (I 36) a.toNatClampNeg (I 36 a.toNatClampNeg + c))) 37 (upd (I 37) (60 * a.toNatClampNeg + b.toNatClampNeg) (I 37 (60 * a.toNatClampNeg + b.toNatClampNeg) + c))) J) : mv_wpM mv_tab mv_sh d 4 [.inr (.inr 4), .inl a, .inl b, .inl c] I J Q := by
  obtain ⟨d, rfl⟩ : ∃ e, d = e + 1 := ⟨d - 1, by omega⟩
  refine (show ∃ fu9, mv_wp (mv_wpM mv_tab mv_sh d) mv_sh none tbX0_stow flX0 csX0 1 (fun _ _ _ _ _ => False) Q fu9 0 [some (.inr (.inr 4)), some (.inl a), some (.inl b), some (.inl c)] [] I J from ?_)
  refine ⟨60, ?_⟩
  have B : vp_in a 6 := vp_in_iff.mpr ⟨ha.1, by have := ha.2; omega⟩
  have B2 := (mi_360 ha hb).1
  refine And.intro B ?_
  refine And.intro B ?_
  refine And.intro B2 ?_
  refine And.intro B2 ?_
  refine s_stowedOf (by omega) _ _ ha hb ?_
  show Q (some (.inl (upd (I 37) (a * 60 + b).toNatClampNeg (I 37 (a * 60 + b).toNatClampNeg + c) (a * 60 + b).toNatClampNeg))) (va_up (va_up I 36 (upd (I 36) a.toNatClampNeg (I 36 a.toNatClampNeg + c))) 37 (upd (I 37) (a * 60 + b).toNatClampNeg (I 37 (a * 60 + b).toNatClampNeg + c))) J
  rw [ix_c ha hb]
  have e : upd (I 37) (60 * a.toNatClampNeg + b.toNatClampNeg) (I 37 (60 * a.toNatClampNeg + b.toNatClampNeg) + c) (60 * a.toNatClampNeg + b.toNatClampNeg) = I 37 (60 * a.toNatClampNeg + b.toNatClampNeg) + c := if_pos rfl
  rw [e]
  exact h
set_option maxHeartbeats 1000000 in
theorem E_load {d : Nat} (hd : 7 ≤ d) (a b c : Int32) {I : mv_I} {J : mv_J} {Q : mv_Q} (sc : SC I) (cq : CQm I) (hlw : ∀ l : Nat, (l : Int) < (I 3 6).toInt → (I 25 l).toInt < (I 1 2).toInt) (h : ∀ (r : Int32) (I' : mv_I), ldR (okd a b c (I 4 7) (I 3 6)) c (I 29 b.toNatClampNeg) (I 32 a.toNatClampNeg - I 36 a.toNatClampNeg) (QC I (I 0 7) (I 25 b.toNatClampNeg) (I 1 9).toNatClampNeg) (I 14 (I 25 b.toNatClampNeg).toNatClampNeg).toInt (ldS I I') (ldD I I' a b c r) r → Q (some (.inl r)) I' J) : mv_wpM mv_tab mv_sh d 64 [.inr (.inr 0), .inl a, .inl b, .inl c] I J Q := by
  obtain ⟨d, rfl⟩ : ∃ e, d = e + 1 := ⟨d - 1, by omega⟩
  refine (show ∃ fu9, mv_wp (mv_wpM mv_tab mv_sh d) mv_sh none tbX7_load flX7 csX7 1 (fun _ _ _ _ _ => False) Q fu9 0 [some (.inr (.inr 0)), some (.inl a), some (.inl b), some (.inl c), none] [] I J from ?_)
  refine ⟨120, ?_⟩
  obtain ⟨s1, s2, s3, s4, s5, s6, s7, s8, s9, s10, s11, s12⟩ := id sc
  have NS : ldS I I := ⟨rfl, rfl, rfl, rfl, rfl⟩
  have c0 : (0 : Int32).toInt = 0 := by decide
  refine c_hasShip (by omega) a (fun p1 => ?_) (fun p1 => ?_)
  · first | refine And.intro (fun z => absurd z (by decide)) (fun _ => ?_) | refine And.intro (fun _ => ?_) (fun z => absurd z (by decide))
    have ha : rg a 0 5 := mg_lt p1 s7.1.2
    refine c_hasLot (by omega) b (fun p2 => ?_) (fun p2 => ?_)
    · first | refine And.intro (fun z => absurd z (by decide)) (fun _ => ?_) | refine And.intro (fun _ => ?_) (fun z => absurd z (by decide))
      have hb : rg b 0 59 := mg_lt p2 s5.2
      have B : vp_in b 60 := vp_in_iff.mpr ⟨hb.1, by have := hb.2; omega⟩
      refine And.intro (fun q1 => ?_) (fun q1 => ?_)
      · have ok : okd a b c (I 4 7) (I 3 6) := ⟨p1, p2, q1⟩
        refine And.intro B ?_
        refine And.intro B ?_
        refine And.intro (fun q2 => ?_) (fun q2 => ?_)
        · exact h _ _ (Or.inr (Or.inl ⟨ok, q2, rfl, NS⟩))
        · refine s_freeRoom (by omega) a ha ?_
          refine And.intro (fun q3 => ?_) (fun q3 => ?_)
          · exact h _ _ (Or.inr (Or.inr (Or.inl ⟨ok, q2, q3, rfl, NS⟩)))
          · have hw := s6 b.toNatClampNeg
            have kb := mi_cl hb.1
            have hlt := hlw b.toNatClampNeg (by have := p2.2; rw [mi_lt] at this; omega)
            have okw : 0 ≤ I 25 b.toNatClampNeg ∧ I 25 b.toNatClampNeg < I 1 2 := ⟨by rw [mi_le, c0]; exact hw.1, by rw [mi_lt]; exact hlt⟩
            refine e_uc (by omega) _ _ sc cq okw (fun r I2 f2 q => ?_)
            obtain ⟨v, qv, e⟩ := q
            have Bw : vp_in (I 25 b.toNatClampNeg) 8 := vp_in_iff.mpr ⟨hw.1, by have := hw.2; omega⟩
            refine And.intro (fun q4 => ?_) (fun q4 => ?_)
            · rw [mi_le, e] at q4
              refine s_toHolds (by omega) b c hb ?_
              refine And.intro Bw ?_
              refine And.intro Bw ?_
              refine e_stow (by omega) a b c ha hb ?_
              refine h _ _ (Or.inr (Or.inr (Or.inr ⟨ok, q2, q3, v, qv, Or.inr ⟨by omega, ?_⟩⟩)))
              have e14 : I2 14 = I 14 := f2 14 rfl
              have e29 : I2 29 = I 29 := f2 29 rfl
              have e30 : I2 30 = I 30 := f2 30 rfl
              have e36 : I2 36 = I 36 := f2 36 rfl
              have e37 : I2 37 = I 37 := f2 37 rfl
              refine ⟨?_, ?_, ?_, ?_, ?_, ?_⟩
              · show I2 37 _ + c = _
                rw [e37]
              · show upd (I2 14) _ (I2 14 _ + c) = _
                rw [e14]
              · show upd (I2 29) _ (I2 29 _ - c) = _
                rw [e29]
              · show upd (I2 30) _ (I2 30 _ + c) = _
                rw [e30]
              · show upd (I2 36) _ (I2 36 _ + c) = _
                rw [e36]
              · show upd (I2 37) _ (I2 37 _ + c) = _
                rw [e37]
            · rw [mi_le, e] at q4
              exact h _ _ (Or.inr (Or.inr (Or.inr ⟨ok, q2, q3, v, qv, Or.inl ⟨by omega, rfl, f2 14 rfl, f2 29 rfl, f2 30 rfl, f2 36 rfl, f2 37 rfl⟩⟩)))
      · exact h _ _ (Or.inl ⟨fun z => q1 z.2.2, rfl, NS⟩)
    · first | refine And.intro (fun z => absurd z (by decide)) (fun _ => ?_) | refine And.intro (fun _ => ?_) (fun z => absurd z (by decide))
      exact h _ _ (Or.inl ⟨fun z => p2 z.2.1, rfl, NS⟩)
  · first | refine And.intro (fun z => absurd z (by decide)) (fun _ => ?_) | refine And.intro (fun _ => ?_) (fun z => absurd z (by decide))
    exact h _ _ (Or.inl ⟨fun z => p1 z.1, rfl, NS⟩)
def ldS2 (I I' : mv_I) : Prop := I' 52 = I 52 ∧ I' 56 = I 56 ∧ I' 72 = I 72
def ldD2 (I I' : mv_I) (a b c r : Int32) : Prop := r = I 72 (60 * a.toNatClampNeg + b.toNatClampNeg) + c ∧ I' 52 = upd (I 52) (I 53 b.toNatClampNeg).toNatClampNeg (I 52 (I 53 b.toNatClampNeg).toNatClampNeg + c) ∧ I' 56 = upd (I 56) b.toNatClampNeg (I 56 b.toNatClampNeg - c) ∧ I' 72 = upd (I 72) (60 * a.toNatClampNeg + b.toNatClampNeg) (I 72 (60 * a.toNatClampNeg + b.toNatClampNeg) + c)
set_option maxHeartbeats 1000000 in
theorem E2_load {d : Nat} (hd : 5 ≤ d) (a b c : Int32) {I : mv_I} {J : mv_J} {Q : mv_Q} (sm : SM I) (mq : MQm I) (hlw : ∀ l : Nat, (l : Int) < (I 12 4).toInt → (I 53 l).toInt < (I 12 0).toInt) (h : ∀ (r : Int32) (I' : mv_I) (J' : mv_J), ldR (okd a b c (I 12 24) (I 12 4)) c (I 56 b.toNatClampNeg) (I 68 a.toNatClampNeg - hl (I 72) a.toNatClampNeg (I 12 4).toNatClampNeg) (QM I (I 12 3) (I 53 b.toNatClampNeg) (I 12 11).toNatClampNeg) (I 52 (I 53 b.toNatClampNeg).toNatClampNeg).toInt (ldS2 I I') (ldD2 I I' a b c r) r → Q (some (.inl r)) I' J') : mv_wpM mv_tab mv_sh d 108 [.inr (.inr 12), .inl a, .inl b, .inl c] I J Q := by
  obtain ⟨d, rfl⟩ : ∃ e, d = e + 1 := ⟨d - 1, by omega⟩
  refine (show ∃ fu9, mv_wp (mv_wpM mv_tab mv_sh d) mv_sh none tbX8_load flX8 csX8 1 (fun _ _ _ _ _ => False) Q fu9 0 [some (.inr (.inr 12)), some (.inl a), some (.inl b), some (.inl c), none] [] I J from ?_)
  refine ⟨120, ?_⟩
  obtain ⟨t1, t2, t3, t4, t5, t6, t7, t8, t9, t10⟩ := id sm
  have NS : ldS2 I I := ⟨rfl, rfl, rfl⟩
  have c0 : (0 : Int32).toInt = 0 := by decide
  have c1 : (1 : Int32).toInt = 1 := by decide
  refine c8_isShip (by omega) a (fun p1 => ?_) (fun p1 => ?_)
  · first | refine And.intro (fun z => absurd z (by decide)) (fun _ => ?_) | refine And.intro (fun _ => ?_) (fun z => absurd z (by decide))
    have o1 := (lw_iff t7.1.1).mp p1
    have ha : rg a 0 5 := (mr_lt t7.1.1 p1 t7.1.2).1
    have Ba : vp_in a 6 := vp_in_iff.mpr ⟨ha.1, by have := ha.2; omega⟩
    refine c8_isLot (by omega) b (fun p2 => ?_) (fun p2 => ?_)
    · first | refine And.intro (fun z => absurd z (by decide)) (fun _ => ?_) | refine And.intro (fun _ => ?_) (fun z => absurd z (by decide))
      have o2 := (lw_iff t5.1).mp p2
      have hb : rg b 0 59 := (mr_lt t5.1 p2 t5.2).1
      have Bb : vp_in b 60 := vp_in_iff.mpr ⟨hb.1, by have := hb.2; omega⟩
      have hw := t6 b.toNatClampNeg
      have Bw : vp_in (I 53 b.toNatClampNeg) 8 := vp_in_iff.mpr ⟨hw.1, by have := hw.2; omega⟩
      have Bh := (mi_360r ha hb).1
      have kb := mi_cl hb.1
      have hlt := hlw b.toNatClampNeg (by have := o2.2; rw [mi_lt] at this; omega)
      have okw : 0 ≤ I 53 b.toNatClampNeg ∧ I 53 b.toNatClampNeg < I 12 0 := ⟨by rw [mi_le, c0]; exact hw.1, by rw [mi_lt]; exact hlt⟩
      refine And.intro (fun q1 => ?_) (fun q1 => ?_)
      · have ok : okd a b c (I 12 24) (I 12 4) := ⟨o1, o2, q1⟩
        have hc1 : 1 ≤ c.toInt := by rw [mi_le, c1] at q1; exact q1
        refine And.intro Bb ?_
        refine And.intro Bb ?_
        refine And.intro (fun q2 => ?_) (fun q2 => ?_)
        · exact h _ _ _ (Or.inr (Or.inl ⟨ok, q2, rfl, NS⟩))
        · refine And.intro Ba ?_
          refine e_hl (by omega) a ha (le8 t5 (by omega)) (mi_nI t5.1).symm ?_
          refine And.intro (fun q3 => ?_) (fun q3 => ?_)
          · exact h _ _ _ (Or.inr (Or.inr (Or.inl ⟨ok, q2, q3, rfl, NS⟩)))
          · refine e_lo (by omega) _ sm mq okw (fun r2 I2 J2 f2 q => ?_)
            obtain ⟨v, qv, e⟩ := q
            refine And.intro (fun q4 => ?_) (fun q4 => ?_)
            · refine And.intro Bb ?_
              refine And.intro Bb ?_
              refine And.intro Bh ?_
              refine And.intro Bh ?_
              refine And.intro Bw ?_
              refine And.intro Bw ?_
              refine And.intro Bh ?_
              have q5 : ¬ v - (I 52 (I 53 b.toNatClampNeg).toNatClampNeg).toInt < c.toInt := by
                rw [mi_le, e] at q4
                by_cases z : 0 < v - (I 52 (I 53 b.toNatClampNeg).toNatClampNeg).toInt
                · rw [if_pos z] at q4; omega
                · rw [if_neg z] at q4; omega
              refine h _ _ _ (Or.inr (Or.inr (Or.inr ⟨ok, q2, q3, v, qv, Or.inr ⟨q5, ?_⟩⟩)))
              have e52 : I2 52 = I 52 := f2_fn f2 rfl (fun _ => rfl)
              have e56 : I2 56 = I 56 := f2_fn f2 rfl (fun _ => rfl)
              have e72 : I2 72 = I 72 := f2_fn f2 rfl (fun _ => rfl)
              have ex := ix_r ha hb
              refine ⟨?_, ?_, ?_, ?_⟩
              · show upd (I2 72) (60 * a + b).toNatClampNeg (I2 72 (60 * a + b).toNatClampNeg + c) (60 * a + b).toNatClampNeg = _
                rw [ex, e72]
                exact if_pos rfl
              · show upd (I2 52) _ (I2 52 _ + c) = _
                rw [e52]
              · show upd (I2 56) _ (I2 56 _ - c) = _
                rw [e56]
              · show upd (I2 72) (60 * a + b).toNatClampNeg (I2 72 (60 * a + b).toNatClampNeg + c) = _
                rw [ex, e72]
            · have q5 : v - (I 52 (I 53 b.toNatClampNeg).toNatClampNeg).toInt < c.toInt := by
                rw [mi_le, e] at q4
                by_cases z : 0 < v - (I 52 (I 53 b.toNatClampNeg).toNatClampNeg).toInt
                · rw [if_pos z] at q4; omega
                · rw [if_neg z] at q4; omega
              exact h _ _ _ (Or.inr (Or.inr (Or.inr ⟨ok, q2, q3, v, qv, Or.inl ⟨q5, rfl, f2_fn f2 rfl (fun _ => rfl), f2_fn f2 rfl (fun _ => rfl), f2_fn f2 rfl (fun _ => rfl)⟩⟩)))
      · exact h _ _ _ (Or.inl ⟨fun z => q1 z.2.2, rfl, NS⟩)
    · first | refine And.intro (fun z => absurd z (by decide)) (fun _ => ?_) | refine And.intro (fun _ => ?_) (fun z => absurd z (by decide))
      exact h _ _ _ (Or.inl ⟨fun z => p2 ((lw_iff t5.1).mpr z.2.1), rfl, NS⟩)
  · first | refine And.intro (fun z => absurd z (by decide)) (fun _ => ?_) | refine And.intro (fun _ => ?_) (fun z => absurd z (by decide))
    exact h _ _ _ (Or.inl ⟨fun z => p1 ((lw_iff t7.1.1).mpr z.1), rfl, NS⟩)
