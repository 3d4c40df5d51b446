set_option maxHeartbeats 1000000 in
theorem l_rtaken2 {d : Nat} {day b : Int32} {I : mv_I} {J : mv_J} {Q : mv_Q} (hb : rg b (-1) 59) (h : ∀ r : Int32, Q (some (.inl r)) I J) : ∀ (k fu : Nat) (x : Int32), 0 ≤ x.toInt → (60 - x.toInt).toNat < k → 40 * k + 40 ≤ fu → mv_wp (mv_wpM mv_tab mv_sh d) mv_sh none tbX8_taken flX8 csX8 1 (fun _ _ _ _ _ => False) Q fu 23 [some (.inr (.inr 12)), some (.inl day), some (.inl b), some (.inl x)] [] I J := by
  intro k
  induction k with
  | zero => intro fu x h0 h1 hf; omega
  | succ k ih =>
    intro fu x h0 h1 hf
    obtain ⟨fu, rfl⟩ : ∃ z, fu = z + 40 := ⟨fu - 40, by omega⟩
    obtain ⟨b0, b1⟩ := id hb
    have EX : (60 ≤ x ∨ vp_in x 60) → ∀ fu, 40 ≤ fu → mv_wp (mv_wpM mv_tab mv_sh d) mv_sh none tbX8_taken flX8 csX8 1 (fun _ _ _ _ _ => False) Q fu 44 [some (.inr (.inr 12)), some (.inl day), some (.inl b), some (.inl x)] [] I J := by
      intro hx fu hfu
      obtain ⟨fu, rfl⟩ : ∃ z, fu = z + 40 := ⟨fu - 40, by omega⟩
      refine And.intro (fun q => ?_) (fun q => ?_)
      · refine And.intro (fun q => ?_) (fun q => absurd ‹_› q)
        refine And.intro (fun q => ?_) (fun q => ?_)
        · exact h _
        · exact And.intro (hx.resolve_left q) (h _)
      · have Bb : vp_in b 60 := vp_in_iff.mpr ⟨by (try simp only [mi_le, mi_lt, mi_eq] at *); have := mi_l; omega, by omega⟩
        refine And.intro (fun q2 => ?_) (fun q2 => ?_)
        · refine And.intro (fun q3 => absurd q3 q) (fun q3 => ?_)
          exact And.intro Bb (h _)
        · refine And.intro Bb ?_
          refine And.intro (hx.resolve_left q2) ?_
          exact And.intro (by decide) (h _)
    refine And.intro (fun q => ?_) (fun q => ?_)
    · exact EX (Or.inl q) _ (by omega)
    · have qx : x.toInt < 60 := by (try simp only [mi_le, mi_lt, mi_eq] at *); have := mi_l; omega
      have e1 := mi_inc qx (by omega)
      have Bx : vp_in x 60 := vp_in_iff.mpr ⟨by omega, by omega⟩
      refine And.intro Bx ?_
      refine And.intro (fun _ => ?_) (fun _ => ?_)
      · exact EX (Or.inr Bx) _ (by omega)
      · refine And.intro ?_ trivial
        exact ih _ _ (by omega) (by omega) (by omega)
set_option maxHeartbeats 1000000 in
theorem l_rtaken1 {d : Nat} {day : Int32} {I : mv_I} {J : mv_J} {Q : mv_Q} (hd : rg day 0 59) (h : ∀ r : Int32, Q (some (.inl r)) I J) : ∀ (k fu : Nat) (x : Int32) (y : Option mv_V), rg x (-1) 59 → (x.toInt + 1).toNat < k → 40 * k + 2600 ≤ fu → mv_wp (mv_wpM mv_tab mv_sh d) mv_sh none tbX8_taken flX8 csX8 1 (fun _ _ _ _ _ => False) Q fu 2 [some (.inr (.inr 12)), some (.inl day), some (.inl x), y] [] I J := by
  intro k
  induction k with
  | zero => intro fu x y h0 h1 hf; omega
  | succ k ih =>
    intro fu x y h0 h1 hf
    obtain ⟨fu, rfl⟩ : ∃ z, fu = z + 40 := ⟨fu - 40, by omega⟩
    obtain ⟨x0, x1⟩ := id h0
    obtain ⟨d0, d1⟩ := id hd
    refine And.intro (fun q => ?_) (fun q => ?_)
    · refine And.intro ?_ trivial
      exact l_rtaken2 h0 h 61 _ _ (by omega) (by omega) (by omega)
    · have qx : 0 ≤ x.toInt := by (try simp only [mi_le, mi_lt, mi_eq] at *); have := mi_l; omega
      have e1 : (x + -1).toInt = x.toInt - 1 := mi_dec qx
      refine And.intro (vp_in_iff.mpr ⟨by omega, by omega⟩) ?_
      refine And.intro (fun _ => ?_) (fun _ => ?_)
      · refine And.intro ?_ trivial
        exact l_rtaken2 h0 h 61 _ _ (by omega) (by omega) (by omega)
      · refine And.intro ?_ trivial
        exact ih _ _ _ ⟨by omega, by omega⟩ (by omega) (by omega)
set_option maxHeartbeats 1000000 in
theorem r_taken {d : Nat} (hd : 1 ≤ d) (day : Int32) {I : mv_I} {J : mv_J} {Q : mv_Q} (hd2 : rg day 0 59) (h : ∀ r : Int32, Q (some (.inl r)) I J) : mv_wpM mv_tab mv_sh d 111 [.inr (.inr 12), .inl day] I J Q := by
  obtain ⟨d, rfl⟩ : ∃ e, d = e + 1 := ⟨d - 1, by omega⟩
  refine (show ∃ fu9, mv_wp (mv_wpM mv_tab mv_sh d) mv_sh none tbX8_taken flX8 csX8 1 (fun _ _ _ _ _ => False) Q fu9 0 [some (.inr (.inr 12)), some (.inl day), none, none] [] I J from ?_)
  refine ⟨5200, ?_⟩
  refine And.intro ?_ trivial
  exact l_rtaken1 hd2 h 61 _ _ _ ⟨by have := hd2.1; omega, hd2.2⟩ (by obtain ⟨d0, d1⟩ := hd2; omega) (Nat.le_of_ble_eq_true rfl)

set_option maxHeartbeats 1000000 in
theorem G_sea {d : Nat} (hd : 4 ≤ d) (a : Int32) {I : mv_I} {J : mv_J} {Q : mv_Q} (sm : SM I) (h : ∀ (r : Int32), Q (some (.inl r)) I J) : mv_wpM mv_tab mv_sh d 112 [.inr (.inr 12), .inl a] I J Q := by
  obtain ⟨d, rfl⟩ : ∃ e, d = e + 1 := ⟨d - 1, by omega⟩
  refine (show ∃ fu9, mv_wp (mv_wpM mv_tab mv_sh d) mv_sh none tbX8_sea flX8 csX8 1 (fun _ _ _ _ _ => False) Q fu9 0 [some (.inr (.inr 12)), some (.inl a)] [] I J from ?_)
  refine ⟨60, ?_⟩
  obtain ⟨t1, t2, t3, t4, t5, t6, t7, t8, t9, t10⟩ := id sm
  refine c_in (by omega) a 0 59 (fun p1 => ?_) (fun p1 => ?_)
  · first | refine And.intro (fun z => absurd z (by decide)) (fun _ => ?_) | refine And.intro (fun _ => ?_) (fun z => absurd z (by decide))
    exact r_taken (by omega) a (mg_le p1) (fun r => h r)
  · first | refine And.intro (fun z => absurd z (by decide)) (fun _ => ?_) | refine And.intro (fun _ => ?_) (fun z => absurd z (by decide))
    exact h _

set_option maxHeartbeats 1000000 in
theorem l_rtype2 {d : Nat} {w : Int64} {n : Int32} {J : mv_J} {Q : mv_Q} {I0 : mv_I} {T : Int} (hT : T ≤ 70) (h : ∀ (I' : mv_I), mg_f2 [65] [(12, 20)] I0 I' → (I' 12 20).toInt = T → Q (some (.inl (I' 12 20))) I' J) : ∀ (k fu : Nat) (x : Int32) (I : mv_I), -1 ≤ x.toInt → mg_f2 [65] [(12, 20)] I0 I → 0 ≤ (I 12 20).toInt → (I 12 20).toInt + x.toInt + 1 = T → (x.toInt + 1).toNat < k → 60 * k ≤ fu → mv_wp (mv_wpM mv_tab mv_sh d) mv_sh none tbX8_type flX8 csX8 1 (fun _ _ _ _ _ => False) Q fu 70 [some (.inr (.inr 12)), some (.inr (.inl w)), none, some (.inl n), some (.inl x)] [] I J := by
  intro k
  induction k with
  | zero => intro fu x I h0 h1 h2 h3 h4 hf; omega
  | succ k ih =>
    intro fu x I h0 h1 h2 h3 h4 hf
    obtain ⟨fu, rfl⟩ : ∃ z, fu = z + 60 := ⟨fu - 60, by omega⟩
    refine And.intro (fun q => ?_) (fun q => ?_)
    · exact h _ h1 (by (try simp only [mi_le, mi_lt, mi_eq] at *); have := mi_l; omega)
    · have qx : 0 ≤ x.toInt := by (try simp only [mi_le, mi_lt, mi_eq] at *); have := mi_l; omega
      have e1 : (x + -1).toInt = x.toInt - 1 := mi_dec qx
      have e2 := mi_inc (x := I 12 20) (n := 70) (by omega) (by omega)
      refine And.intro (vp_in_iff.mpr ⟨by omega, by omega⟩) ?_
      refine And.intro ?_ trivial
      refine ih _ _ _ (by omega) (by repeat (first | exact mg_f2.rf | assumption | refine mg_f2.up ?_ rfl | refine mg_f2.uf ?_ rfl)) ?_ ?_ (by omega) (by omega)
      · show 0 ≤ (I 12 20 + 1).toInt
        omega
      · show (I 12 20 + 1).toInt + (x + -1).toInt + 1 = T
        omega
def sm_type (w : Int64) (n : Int32) (I : mv_I) (r : Int32) (I' : mv_I) : Prop := (¬ vt_ok w n ∧ r = -1 ∧ I' = I) ∨ (vt_ok w n ∧ ¬ (I 12 20).toInt + n.toInt ≤ 70 ∧ r = -3 ∧ I' = I) ∨ (vt_ok w n ∧ (I 12 20).toInt + n.toInt ≤ 70 ∧ r = I' 12 20 ∧ (I' 12 20).toInt = (I 12 20).toInt + n.toInt)
set_option maxHeartbeats 1000000 in
theorem l_rtype1 {d : Nat} (hd : 1 ≤ d) {w : Int64} {n : Int32} {J : mv_J} {Q : mv_Q} {I : mv_I} {N : Nat} (hN : n = nI N) (h1N : 1 ≤ N) (hN8 : N ≤ 8) (hl : rg (I 12 20) 0 70) (hb0 : ¬ (∀ k, k < N → bt_ok w k) → Q (some (.inl (-1))) I J) (hfl : (∀ k, k < N → bt_ok w k) → ¬ (I 12 20).toInt + n.toInt ≤ 70 → Q (some (.inl (-3))) I J) (h : (∀ k, k < N → bt_ok w k) → (I 12 20).toInt + n.toInt ≤ 70 → ∀ (I' : mv_I), mg_f2 [65] [(12, 20)] I I' → (I' 12 20).toInt = (I 12 20).toInt + n.toInt → Q (some (.inl (I' 12 20))) I' J) : ∀ (k fu : Nat) (x : Int32) (i : Nat), x = nI i → i ≤ N → (∀ j, j < i → bt_ok w j) → N - i < k → 60 * k + 700 ≤ fu → mv_wp (mv_wpM mv_tab mv_sh d) mv_sh none tbX8_type flX8 csX8 1 (fun _ _ _ _ _ => False) Q fu 15 [some (.inr (.inr 12)), some (.inr (.inl w)), none, some (.inl n), some (.inl x)] [] I J := by
  intro k
  induction k with
  | zero => intro fu x i h0 h1 h2 h3 hf; omega
  | succ k ih =>
    intro fu x i h0 h1 h2 h3 hf
    obtain ⟨fu, rfl⟩ : ∃ z, fu = z + 60 := ⟨fu - 60, by omega⟩
    subst h0
    obtain ⟨l0, l1⟩ := id hl
    have en : n.toInt = N := by rw [hN]; exact nI_toInt (by omega)
    refine And.intro (fun q => ?_) (fun q => ?_)
    · have ei : i = N := by
        rw [hN] at q
        have := (nI_leI (a := N) (b := i) (by omega) (by omega)).mp q
        omega
      subst ei
      have es : (I 12 20 + n).toInt = (I 12 20).toInt + n.toInt := mi_add (by omega) (by omega)
      have c70 : (70 : Int32).toInt = 70 := by decide
      refine And.intro (fun q2 => ?_) (fun q2 => ?_)
      · have q3 : (I 12 20).toInt + n.toInt ≤ 70 := by rw [mi_le, es, c70] at q2; exact q2
        have c1 : (1 : Int32).toInt = 1 := by decide
        have e4 : (n - 1).toInt = n.toInt - 1 := by rw [mi_sub (by omega) (by omega), c1]
        refine And.intro ?_ trivial
        exact l_rtype2 (T := (I 12 20).toInt + n.toInt) q3 (h h2 q3) 9 _ _ _ (by omega) mg_f2.rf (by omega) (by omega) (by omega) (by omega)
      · exact hfl h2 (fun z => q2 (by rw [mi_le, es, c70]; exact z))
    · have qx : i < N := by
        rw [hN] at q
        by_cases z : i < N
        · exact z
        · exact absurd ((nI_leI (a := N) (b := i) (by omega) (by omega)).mpr (by omega)) q
      refine c_in (by omega) _ 32 126 (fun p => ?_) (fun p => ?_)
      · first | refine And.intro (fun z => absurd z (by decide)) (fun _ => ?_) | refine And.intro (fun _ => ?_) (fun z => absurd z (by decide))
        rw [bt_and] at p
        have p : bt_ok w i := p
        refine And.intro ?_ trivial
        refine ih _ _ (i + 1) (nI_1 i) (by omega) (fun j hj => ?_) (by omega) (by omega)
        by_cases z : j = i
        · subst z; exact p
        · exact h2 j (by omega)
      · first | refine And.intro (fun z => absurd z (by decide)) (fun _ => ?_) | refine And.intro (fun _ => ?_) (fun z => absurd z (by decide))
        rw [bt_and] at p
        have p : ¬ bt_ok w i := p
        exact hb0 (fun z => p (z i qx))
set_option maxHeartbeats 1000000 in
theorem G_type {d : Nat} (hd : 4 ≤ d) (n : Int32) (w : Int64) {I : mv_I} {J : mv_J} {Q : mv_Q} (sm : SM I) (h : ∀ (r : Int32) (I' : mv_I) (J' : mv_J), SM I' → mg_f2 [65] [(12, 20)] I I' → sm_type w n I r I' → Q (some (.inl r)) I' J') : mv_wpM mv_tab mv_sh d 100 [.inr (.inr 12), .inr (.inl w), .inl n] I J Q := by
  obtain ⟨d, rfl⟩ : ∃ e, d = e + 1 := ⟨d - 1, by omega⟩
  refine (show ∃ fu9, mv_wp (mv_wpM mv_tab mv_sh d) mv_sh none tbX8_type flX8 csX8 1 (fun _ _ _ _ _ => False) Q fu9 0 [some (.inr (.inr 12)), some (.inr (.inl w)), none, some (.inl n), none] [] I J from ?_)
  refine ⟨1400, ?_⟩
  obtain ⟨t1, t2, t3, t4, t5, t6, t7, t8, t9, t10⟩ := id sm
  refine c_in (by omega) n 1 8 (fun p1 => ?_) (fun p1 => ?_)
  · first | refine And.intro (fun z => absurd z (by decide)) (fun _ => ?_) | refine And.intro (fun _ => ?_) (fun z => absurd z (by decide))
    obtain ⟨N, hN, eN, cN⟩ := mi_18 p1
    have z := (mg_le p1).1
    have c1 : (1 : Int32).toInt = 1 := by decide
    have en : n.toInt = N := by rw [eN]; exact nI_toInt (by omega)
    have mk : (∀ k, k < N → bt_ok w k) → vt_ok w n := fun p2 => ⟨p1, by rw [cN]; exact p2⟩
    refine And.intro ?_ trivial
    refine l_rtype1 (by omega) eN (by omega) hN t4 (fun b => ?_) (fun b q => ?_) (fun b q I2 f g => ?_) 9 _ _ 0 nI_0.symm (by omega) (fun j hj => absurd hj (by omega)) (by omega) (Nat.le_of_ble_eq_true rfl)
    · exact h _ _ _ sm mg_f2.rf (Or.inl ⟨fun z => b (by have := z.2; rw [cN] at this; exact this), rfl, rfl⟩)
    · exact h _ _ _ sm mg_f2.rf (Or.inr (Or.inl ⟨mk b, q, rfl, rfl⟩))
    · exact h _ _ _ ⟨(show rg (_ : Int32) _ _ by rw [f 12 3 rfl rfl]; exact t1), (show rg (_ : Int32) _ _ by rw [f 12 0 rfl rfl]; exact t2), (show rg (_ : Int32) _ _ by rw [f 12 11 rfl rfl]; exact t3), (⟨by have := t4.1; omega, by omega⟩), (show rg (_ : Int32) _ _ by rw [f 12 4 rfl rfl]; exact t5), (fun j => (by rw [f 53 j rfl rfl]; exact t6 j)), (t7.kp (f 12 24 rfl rfl) (f2_fn (c := 67) f rfl (fun _ => rfl)) (f2_fn (c := 68) f rfl (fun _ => rfl)) (f2_fn (c := 69) f rfl (fun _ => rfl))), ⟨(fun j => (by rw [f 82 j rfl rfl]; exact t8.1 j)), (fun j => (by rw [f 83 j rfl rfl]; exact t8.2 j))⟩, (fun j => (by rw [f 59 j rfl rfl, f 60 j rfl rfl]; exact t9 j)), ⟨(t10.1.kp (f 12 0 rfl rfl) (f2_fn (c := 51) f rfl (fun _ => rfl))), (show rg (_ : Int32) _ _ by rw [f 12 10 rfl rfl]; exact t10.2)⟩⟩ f (Or.inr (Or.inr ⟨mk b, q, rfl, g⟩))
  · first | refine And.intro (fun z => absurd z (by decide)) (fun _ => ?_) | refine And.intro (fun _ => ?_) (fun z => absurd z (by decide))
    exact h _ _ _ sm mg_f2.rf (Or.inl ⟨fun z => p1 z.1, rfl, rfl⟩)

theorem mi_240 {a b : Int32} (ha : rg a 0 3) (hb : rg b 0 59) : vp_in (60 * a + b) 240 ∧ (60 * a + b).toInt = 60 * a.toInt + b.toInt ∧ (60 * a + b).toNatClampNeg = 60 * a.toNatClampNeg + b.toNatClampNeg := by
  obtain ⟨a0, a1⟩ := ha
  obtain ⟨b0, b1⟩ := hb
  have c60 : (60 : Int32).toInt = 60 := by decide
  have e1 : (60 * a).toInt = 60 * a.toInt := by rw [mi_mul (by rw [c60]; omega) (by rw [c60]; omega), c60]
  have e2 : (60 * a + b).toInt = 60 * a.toInt + b.toInt := by rw [mi_add (by rw [e1]; omega) (by rw [e1]; omega), e1]
  have k1 := mi_cl a0
  have k2 := mi_cl b0
  have k3 := mi_cl (x := 60 * a + b) (by omega)
  exact ⟨vp_in_iff.mpr ⟨by omega, by omega⟩, e2, by omega⟩
theorem mi_240s {a b c : Int32} (ha : rg a 0 3) (hb : 0 ≤ b.toInt) (hc : 0 ≤ c.toInt) (h : b.toInt + c.toInt ≤ 59) : vp_in (60 * a + b + c) 240 ∧ (60 * a + b + c).toNatClampNeg = 60 * a.toNatClampNeg + b.toNatClampNeg + c.toNatClampNeg := by
  obtain ⟨h1, h2, h3⟩ := mi_240 (b := b) ha ⟨hb, by omega⟩
  obtain ⟨a0, a1⟩ := ha
  have e2 : (60 * a + b + c).toInt = 60 * a.toInt + b.toInt + c.toInt := by rw [mi_add (by rw [h2]; omega) (by rw [h2]; omega), h2]
  have k1 := mi_cl a0
  have k2 := mi_cl hb
  have k4 := mi_cl hc
  have k3 := mi_cl (x := 60 * a + b + c) (by omega)
  exact ⟨vp_in_iff.mpr ⟨by omega, by omega⟩, by omega⟩
def sm_sheet (a b c : Int32) (I : mv_I) (r : Int32) (I' : mv_I) : Prop := (¬ ok_sheet a b c ∧ r = -1 ∧ I' = I) ∨ (ok_sheet a b c ∧ c < 0 ∧ r = -14 ∧ I' = I) ∨ (ok_sheet a b c ∧ ¬ c < 0 ∧ r = c ∧ I' 82 = upd (I 82) a.toNatClampNeg b ∧ I' 83 = upd (I 83) a.toNatClampNeg c ∧ (∀ z, I' 84 z = if 60 * a.toNatClampNeg ≤ z ∧ z < 60 * a.toNatClampNeg + 60 then 0 else I 84 z))
set_option maxHeartbeats 1000000 in
theorem l_rsheet {d : Nat} {a b c : Int32} {J : mv_J} {Q : mv_Q} {I0 : mv_I} (ha : rg a 0 3) (h : ∀ (I' : mv_I), mg_f2 [84] [] I0 I' → (∀ z, I' 84 z = if 60 * a.toNatClampNeg ≤ z ∧ z < 60 * a.toNatClampNeg + 60 then 0 else I0 84 z) → Q (some (.inl c)) I' J) : ∀ (k fu : Nat) (x : Int32) (I : mv_I), rg x 0 60 → mg_f2 [84] [] I0 I → (∀ z, I 84 z = if 60 * a.toNatClampNeg ≤ z ∧ z < 60 * a.toNatClampNeg + x.toNatClampNeg then 0 else I0 84 z) → (60 - x.toInt).toNat < k → 60 * k ≤ fu → mv_wp (mv_wpM mv_tab mv_sh d) mv_sh none tbX8_sheet flX8 csX8 1 (fun _ _ _ _ _ => False) Q fu 48 [some (.inr (.inr 12)), some (.inl a), some (.inl b), some (.inl c), some (.inl x)] [] I J := by
  intro k
  induction k with
  | zero => intro fu x I h0 h1 h2 h3 hf; omega
  | succ k ih =>
    intro fu x I h0 h1 h2 h3 hf
    obtain ⟨fu, rfl⟩ : ∃ z, fu = z + 60 := ⟨fu - 60, by omega⟩
    obtain ⟨x0, x1⟩ := id h0
    have kx := mi_cl x0
    refine And.intro (fun q => ?_) (fun q => ?_)
    · have qx : x.toInt = 60 := by (try simp only [mi_le, mi_lt, mi_eq] at *); have := mi_l; omega
      have e : x.toNatClampNeg = 60 := by omega
      rw [e] at h2
      exact h _ h1 h2
    · have qx : x.toInt < 60 := by (try simp only [mi_le, mi_lt, mi_eq] at *); have := mi_l; omega
      have e1 := mi_inc qx (by omega)
      have k1 := mi_cl (x := x + 1) (by omega)
      obtain ⟨y1, y2, y3⟩ := mi_240 (b := x) ha ⟨by omega, by omega⟩
      refine And.intro y1 ?_
      refine And.intro ?_ trivial
      refine ih _ _ _ ⟨by omega, by omega⟩ (mg_f2.up h1 rfl) (fun z => ?_) (by omega) (by omega)
      show upd (I 84) (60 * a + x).toNatClampNeg 0 z = _
      rw [y3]
      unfold upd
      by_cases z1 : z = 60 * a.toNatClampNeg + x.toNatClampNeg
      · rw [if_pos z1, if_pos (by omega)]
      · rw [if_neg z1, h2 z]
        by_cases z2 : 60 * a.toNatClampNeg ≤ z ∧ z < 60 * a.toNatClampNeg + x.toNatClampNeg
        · rw [if_pos z2, if_pos (by omega)]
        · rw [if_neg z2, if_neg (by omega)]
set_option maxHeartbeats 1000000 in
theorem G_sheet {d : Nat} (hd : 4 ≤ d) (a b c : Int32) {I : mv_I} {J : mv_J} {Q : mv_Q} (sm : SM I) (h : ∀ (r : Int32) (I' : mv_I) (J' : mv_J), SM I' → mg_f2 [82, 83, 84] [] I I' → sm_sheet a b c I r I' → Q (some (.inl r)) I' J') : mv_wpM mv_tab mv_sh d 124 [.inr (.inr 12), .inl a, .inl b, .inl c] I J Q := by
  obtain ⟨d, rfl⟩ : ∃ e, d = e + 1 := ⟨d - 1, by omega⟩
  refine (show ∃ fu9, mv_wp (mv_wpM mv_tab mv_sh d) mv_sh none tbX8_sheet flX8 csX8 1 (fun _ _ _ _ _ => False) Q fu9 0 [some (.inr (.inr 12)), some (.inl a), some (.inl b), some (.inl c), none] [] I J from ?_)
  refine ⟨3800, ?_⟩
  obtain ⟨t1, t2, t3, t4, t5, t6, t7, t8, t9, t10⟩ := id sm
  refine c8_isSheet (by omega) a (fun p1 => ?_) (fun p1 => ?_)
  · first | refine And.intro (fun z => absurd z (by decide)) (fun _ => ?_) | refine And.intro (fun _ => ?_) (fun z => absurd z (by decide))
    have ha : rg a 0 3 := mg_le p1
    have Ba : vp_in a 4 := vp_in_iff.mpr ⟨ha.1, by have := ha.2; omega⟩
    refine c_in (by omega) b 0 2 (fun p2 => ?_) (fun p2 => ?_)
    · first | refine And.intro (fun z => absurd z (by decide)) (fun _ => ?_) | refine And.intro (fun _ => ?_) (fun z => absurd z (by decide))
      refine And.intro (fun q1 => ?_) (fun q1 => ?_)
      · refine And.intro (fun q2 => ?_) (fun q2 => ?_)
        · have q2 : ¬ c < 0 := fun z => by simp only [mi_le, mi_lt] at *; omega
          have hc : rg c 0 60 := by
            rw [mi_le] at q1
            rw [mi_lt] at q2
            have := mi_l
            exact ⟨by omega, by omega⟩
          refine And.intro Ba ?_
          refine And.intro Ba ?_
          refine And.intro ?_ trivial
          refine l_rsheet ha (fun I2 f2 g2 => ?_) 61 _ _ _ ⟨by decide, by decide⟩ mg_f2.rf (fun z => (if_neg (by have : (0 : Int32).toNatClampNeg = 0 := (by decide); omega)).symm) (by decide) (Nat.le_of_ble_eq_true rfl)
          have f : mg_f2 [82, 83, 84] [] I I2 := mg_f2.tr (mg_f2.up (mg_f2.up mg_f2.rf rfl) rfl) (f2.mono rfl rfl)
          have e82 : I2 82 = upd (I 82) a.toNatClampNeg b := f2_fn (c := 82) f2 rfl (fun _ => rfl)
          have e83 : I2 83 = upd (I 83) a.toNatClampNeg c := f2_fn (c := 83) f2 rfl (fun _ => rfl)
          refine h _ _ _ ⟨(show rg (_ : Int32) _ _ by rw [f 12 3 rfl rfl]; exact t1), (show rg (_ : Int32) _ _ by rw [f 12 0 rfl rfl]; exact t2), (show rg (_ : Int32) _ _ by rw [f 12 11 rfl rfl]; exact t3), (show rg (_ : Int32) _ _ by rw [f 12 20 rfl rfl]; exact t4), (show rg (_ : Int32) _ _ by rw [f 12 4 rfl rfl]; exact t5), (fun j => (by rw [f 53 j rfl rfl]; exact t6 j)), (t7.kp (f 12 24 rfl rfl) (f2_fn (c := 67) f rfl (fun _ => rfl)) (f2_fn (c := 68) f rfl (fun _ => rfl)) (f2_fn (c := 69) f rfl (fun _ => rfl))), ⟨(fun j => ?_), (fun j => ?_)⟩, (fun j => (by rw [f 59 j rfl rfl, f 60 j rfl rfl]; exact t9 j)), ⟨(t10.1.kp (f 12 0 rfl rfl) (f2_fn (c := 51) f rfl (fun _ => rfl))), (show rg (_ : Int32) _ _ by rw [f 12 10 rfl rfl]; exact t10.2)⟩⟩ f (Or.inr (Or.inr ⟨⟨p1, p2, q1⟩, q2, rfl, e82, e83, g2⟩))
          · rw [e82]; unfold upd; split; exact mg_rl (t8.1 0) p2; exact t8.1 j
          · rw [e83]; unfold upd; split; exact hc; exact t8.2 j
        · have q2 : c < 0 := by simp only [mi_le, mi_lt] at *; omega
          exact h _ _ _ sm mg_f2.rf (Or.inr (Or.inl ⟨⟨p1, p2, q1⟩, q2, rfl, rfl⟩))
      · exact h _ _ _ sm mg_f2.rf (Or.inl ⟨fun z => q1 z.2.2, rfl, rfl⟩)
    · first | refine And.intro (fun z => absurd z (by decide)) (fun _ => ?_) | refine And.intro (fun _ => ?_) (fun z => absurd z (by decide))
      exact h _ _ _ sm mg_f2.rf (Or.inl ⟨fun z => p2 z.2.1, rfl, rfl⟩)
  · first | refine And.intro (fun z => absurd z (by decide)) (fun _ => ?_) | refine And.intro (fun _ => ?_) (fun z => absurd z (by decide))
    exact h _ _ _ sm mg_f2.rf (Or.inl ⟨fun z => p1 z.1, rfl, rfl⟩)

theorem mr_neg {l : Int32} (h : rg l (-1) 2) (q : l < 0) : l = -1 := by
  rw [mi_lt] at q
  have := mi_l
  have := h.1
  have e : (-1 : Int32).toInt = -1 := by decide
  exact mi_eq.mpr (by omega)
theorem mr_nneg {l : Int32} (q : ¬ l < 0) : ¬ l = -1 := by
  intro z
  rw [z] at q
  exact q (by decide)
theorem mr_nge {l : Int32} (q : ¬ 0 ≤ l) : l < 0 := by simp only [mi_le, mi_lt] at *; omega
theorem mr_ge {l : Int32} (q : 0 ≤ l) : ¬ l < 0 := by simp only [mi_le, mi_lt] at *; omega
def sm_drop (a : Int32) (I : mv_I) (r : Int32) (I' : mv_I) : Prop := (¬ (0 ≤ a ∧ a ≤ 3) ∧ r = -1 ∧ I' = I) ∨ ((0 ≤ a ∧ a ≤ 3) ∧ ((I 82 a.toNatClampNeg = -1 ∧ r = -11 ∧ I' = I) ∨ (¬ I 82 a.toNatClampNeg = -1 ∧ r = I 83 a.toNatClampNeg ∧ I' = va_up I 82 (upd (I 82) a.toNatClampNeg (-1)))))
set_option maxHeartbeats 1000000 in
theorem G_drop {d : Nat} (hd : 4 ≤ d) (a : Int32) {I : mv_I} {J : mv_J} {Q : mv_Q} (sm : SM I) (h : ∀ (r : Int32) (I' : mv_I) (J' : mv_J), SM I' → mg_f2 [82] [] I I' → sm_drop a I r I' → Q (some (.inl r)) I' J') : mv_wpM mv_tab mv_sh d 125 [.inr (.inr 12), .inl a] I J Q := by
  obtain ⟨d, rfl⟩ : ∃ e, d = e + 1 := ⟨d - 1, by omega⟩
  refine (show ∃ fu9, mv_wp (mv_wpM mv_tab mv_sh d) mv_sh none tbX8_drop flX8 csX8 1 (fun _ _ _ _ _ => False) Q fu9 0 [some (.inr (.inr 12)), some (.inl a)] [] I J from ?_)
  refine ⟨60, ?_⟩
  obtain ⟨t1, t2, t3, t4, t5, t6, t7, t8, t9, t10⟩ := id sm
  refine c8_isSheet (by omega) a (fun p1 => ?_) (fun p1 => ?_)
  · first | refine And.intro (fun z => absurd z (by decide)) (fun _ => ?_) | refine And.intro (fun _ => ?_) (fun z => absurd z (by decide))
    have ha : rg a 0 3 := mg_le p1
    have Ba : vp_in a 4 := vp_in_iff.mpr ⟨ha.1, by have := ha.2; omega⟩
    refine And.intro Ba ?_
    refine And.intro (fun q => ?_) (fun q => ?_)
    · refine And.intro Ba ?_
      refine And.intro Ba ?_
      have f : mg_f2 [82] [] I (va_up I 82 (upd (I 82) a.toNatClampNeg (-1))) := mg_f2.up mg_f2.rf rfl
      exact h _ _ _ ⟨(show rg (_ : Int32) _ _ by rw [f 12 3 rfl rfl]; exact t1), (show rg (_ : Int32) _ _ by rw [f 12 0 rfl rfl]; exact t2), (show rg (_ : Int32) _ _ by rw [f 12 11 rfl rfl]; exact t3), (show rg (_ : Int32) _ _ by rw [f 12 20 rfl rfl]; exact t4), (show rg (_ : Int32) _ _ by rw [f 12 4 rfl rfl]; exact t5), (fun j => (by rw [f 53 j rfl rfl]; exact t6 j)), (t7.kp (f 12 24 rfl rfl) (f2_fn (c := 67) f rfl (fun _ => rfl)) (f2_fn (c := 68) f rfl (fun _ => rfl)) (f2_fn (c := 69) f rfl (fun _ => rfl))), ⟨(fun j => (show rg (upd (I 82) a.toNatClampNeg (-1) j) (-1) 2 by unfold upd; split; exact ⟨by decide, by decide⟩; exact t8.1 j)), (fun j => (by rw [f 83 j rfl rfl]; exact t8.2 j))⟩, (fun j => (by rw [f 59 j rfl rfl, f 60 j rfl rfl]; exact t9 j)), ⟨(t10.1.kp (f 12 0 rfl rfl) (f2_fn (c := 51) f rfl (fun _ => rfl))), (show rg (_ : Int32) _ _ by rw [f 12 10 rfl rfl]; exact t10.2)⟩⟩ f (Or.inr ⟨p1, Or.inr ⟨mr_nneg (mr_ge q), rfl, rfl⟩⟩)
    · exact h _ _ _ sm mg_f2.rf (Or.inr ⟨p1, Or.inl ⟨mr_neg (t8.1 _) (mr_nge q), rfl, rfl⟩⟩)
  · first | refine And.intro (fun z => absurd z (by decide)) (fun _ => ?_) | refine And.intro (fun _ => ?_) (fun z => absurd z (by decide))
    exact h _ _ _ sm mg_f2.rf (Or.inl ⟨p1, rfl, rfl⟩)

theorem mr_has {len i n : Int32} (hl : rg len 0 60) (hn : 0 ≤ n.toInt) (h : 0 ≤ i.toInt ∧ i.toInt + n.toInt ≤ len.toInt) : has_it len i n := by
  obtain ⟨l0, l1⟩ := hl
  have e : (len - n).toInt = len.toInt - n.toInt := by have := mi_max n; exact mi_sub (by omega) (by omega)
  have := mi_l
  exact ⟨by rw [mi_le]; omega, by rw [mi_le]; omega, by rw [mi_le, e]; omega⟩
theorem v_fault_1 {l len b i n : Int32} (h : l = -1) : v_fault l len b i n = -11 := if_pos h
theorem v_fault_2 {l len b i n : Int32} (h : ¬ l = -1) (h2 : ¬ b = l) : v_fault l len b i n = -12 := (if_neg h).trans (if_neg h2)
theorem v_fault_3 {l len b i n : Int32} (h : ¬ l = -1) (h2 : b = l) (h3 : ¬ has_it len i n) : v_fault l len b i n = -13 := (if_neg h).trans ((if_pos h2).trans (if_neg h3))
theorem v_fault_0 {l len b i n : Int32} (h : ¬ l = -1) (h2 : b = l) (h3 : has_it len i n) : v_fault l len b i n = 0 := (if_neg h).trans ((if_pos h2).trans (if_pos h3))
def sm_item (a b i v : Int32) (I : mv_I) (r : Int32) (I' : mv_I) : Prop := (¬ ((0 ≤ a ∧ a ≤ 3) ∧ (0 ≤ b ∧ b ≤ 2)) ∧ r = -1 ∧ I' = I) ∨ ((0 ≤ a ∧ a ≤ 3) ∧ (0 ≤ b ∧ b ≤ 2) ∧ ((¬ v_fault (I 82 a.toNatClampNeg) (I 83 a.toNatClampNeg) b i 1 = 0 ∧ r = v_fault (I 82 a.toNatClampNeg) (I 83 a.toNatClampNeg) b i 1 ∧ I' = I) ∨ (v_fault (I 82 a.toNatClampNeg) (I 83 a.toNatClampNeg) b i 1 = 0 ∧ r = 1 ∧ I' = va_up I 84 (upd (I 84) (60 * a.toNatClampNeg + i.toNatClampNeg) (vput (I 82 a.toNatClampNeg) v)))))
set_option maxHeartbeats 1000000 in
theorem G_item {d : Nat} (hd : 4 ≤ d) (a b i v : Int32) {I : mv_I} {J : mv_J} {Q : mv_Q} (sm : SM I) (h : ∀ (r : Int32) (I' : mv_I) (J' : mv_J), SM I' → mg_f2 [84] [] I I' → sm_item a b i v I r I' → Q (some (.inl r)) I' J') : mv_wpM mv_tab mv_sh d 126 [.inr (.inr 12), .inl a, .inl b, .inl i, .inl v] I J Q := by
  obtain ⟨d, rfl⟩ : ∃ e, d = e + 1 := ⟨d - 1, by omega⟩
  refine (show ∃ fu9, mv_wp (mv_wpM mv_tab mv_sh d) mv_sh none tbX8_item flX8 csX8 1 (fun _ _ _ _ _ => False) Q fu9 0 [some (.inr (.inr 12)), some (.inl a), some (.inl b), some (.inl i), some (.inl v)] [] I J from ?_)
  refine ⟨120, ?_⟩
  obtain ⟨t1, t2, t3, t4, t5, t6, t7, t8, t9, t10⟩ := id sm
  refine c8_isSheet (by omega) a (fun p1 => ?_) (fun p1 => ?_)
  · first | refine And.intro (fun z => absurd z (by decide)) (fun _ => ?_) | refine And.intro (fun _ => ?_) (fun z => absurd z (by decide))
    have ha : rg a 0 3 := mg_le p1
    have Ba : vp_in a 4 := vp_in_iff.mpr ⟨ha.1, by have := ha.2; omega⟩
    refine c_in (by omega) b 0 2 (fun p2 => ?_) (fun p2 => ?_)
    · first | refine And.intro (fun z => absurd z (by decide)) (fun _ => ?_) | refine And.intro (fun _ => ?_) (fun z => absurd z (by decide))
      refine And.intro Ba ?_
      refine And.intro (fun q => ?_) (fun q => ?_)
      · have n1 := mr_nneg (mr_ge q)
        refine And.intro Ba ?_
        refine And.intro (fun q2 => ?_) (fun q2 => ?_)
        · refine And.intro Ba ?_
          have hl := t8.2 a.toNatClampNeg
          have c1 : (1 : Int32).toInt = 1 := by decide
          have e1 : (I 83 a.toNatClampNeg - 1).toInt = (I 83 a.toNatClampNeg).toInt - 1 := by have := hl.1; have := hl.2; rw [mi_sub (by omega) (by omega), c1]
          refine c_in (by omega) i 0 _ (fun p3 => ?_) (fun p3 => ?_)
          · first | refine And.intro (fun z => absurd z (by decide)) (fun _ => ?_) | refine And.intro (fun _ => ?_) (fun z => absurd z (by decide))
            obtain ⟨z1, z2⟩ := p3
            rw [mi_le] at z1
            rw [mi_le, e1] at z2
            have c0 : (0 : Int32).toInt = 0 := by decide
            have hi : rg i 0 59 := ⟨by omega, by have := hl.2; omega⟩
            obtain ⟨y1, y2, y3⟩ := mi_240 ha hi
            have v0 := v_fault_0 (b := b) (i := i) (n := 1) n1 q2.symm (mr_has hl (by omega) ⟨by omega, by omega⟩)
            have f : ∀ u, mg_f2 [84] [] I (va_up I 84 (upd (I 84) (60 * a.toNatClampNeg + i.toNatClampNeg) u)) := fun u => mg_f2.up mg_f2.rf rfl
            have K : ∀ u J, u = vput (I 82 a.toNatClampNeg) v → Q (some (.inl 1)) (va_up I 84 (upd (I 84) (60 * a + i).toNatClampNeg u)) J := by
              intro u J hu
              subst hu
              rw [y3]
              have f := f (vput (I 82 a.toNatClampNeg) v)
              exact h _ _ _ ⟨(show rg (_ : Int32) _ _ by rw [f 12 3 rfl rfl]; exact t1), (show rg (_ : Int32) _ _ by rw [f 12 0 rfl rfl]; exact t2), (show rg (_ : Int32) _ _ by rw [f 12 11 rfl rfl]; exact t3), (show rg (_ : Int32) _ _ by rw [f 12 20 rfl rfl]; exact t4), (show rg (_ : Int32) _ _ by rw [f 12 4 rfl rfl]; exact t5), (fun j => (by rw [f 53 j rfl rfl]; exact t6 j)), (t7.kp (f 12 24 rfl rfl) (f2_fn (c := 67) f rfl (fun _ => rfl)) (f2_fn (c := 68) f rfl (fun _ => rfl)) (f2_fn (c := 69) f rfl (fun _ => rfl))), ⟨(fun j => (by rw [f 82 j rfl rfl]; exact t8.1 j)), (fun j => (by rw [f 83 j rfl rfl]; exact t8.2 j))⟩, (fun j => (by rw [f 59 j rfl rfl, f 60 j rfl rfl]; exact t9 j)), ⟨(t10.1.kp (f 12 0 rfl rfl) (f2_fn (c := 51) f rfl (fun _ => rfl))), (show rg (_ : Int32) _ _ by rw [f 12 10 rfl rfl]; exact t10.2)⟩⟩ f (Or.inr ⟨p1, p2, Or.inr ⟨v0, rfl, rfl⟩⟩)
            refine And.intro (fun q3 => ?_) (fun q3 => ?_)
            · refine And.intro (fun q4 => ?_) (fun q4 => ?_)
              · refine And.intro y1 (K _ _ ?_)
                unfold vput
                rw [q2, if_neg q3, if_neg q4]
              · refine And.intro y1 (K _ _ ?_)
                unfold vput
                rw [q2, if_neg q3, if_pos q4]
            · refine And.intro y1 (K _ _ ?_)
              unfold vput
              rw [q2, if_pos q3]
          · first | refine And.intro (fun z => absurd z (by decide)) (fun _ => ?_) | refine And.intro (fun _ => ?_) (fun z => absurd z (by decide))
            have nh : ¬ has_it (I 83 a.toNatClampNeg) i 1 := fun z => by
              have z := mg_has hl z
              have c0 : (0 : Int32).toInt = 0 := by decide
              exact p3 ⟨by rw [mi_le]; omega, by rw [mi_le, e1]; omega⟩
            have v3 := v_fault_3 (b := b) n1 q2.symm nh
            exact h _ _ _ sm mg_f2.rf (Or.inr ⟨p1, p2, Or.inl ⟨by rw [v3]; decide, v3.symm, rfl⟩⟩)
        · have v2 := v_fault_2 (len := I 83 a.toNatClampNeg) (b := b) (i := i) (n := 1) n1 (fun z => q2 z.symm)
          exact h _ _ _ sm mg_f2.rf (Or.inr ⟨p1, p2, Or.inl ⟨by rw [v2]; decide, v2.symm, rfl⟩⟩)
      · have v1 := v_fault_1 (len := I 83 a.toNatClampNeg) (b := b) (i := i) (n := 1) (mr_neg (t8.1 a.toNatClampNeg) (mr_nge q))
        exact h _ _ _ sm mg_f2.rf (Or.inr ⟨p1, p2, Or.inl ⟨by rw [v1]; decide, v1.symm, rfl⟩⟩)
    · first | refine And.intro (fun z => absurd z (by decide)) (fun _ => ?_) | refine And.intro (fun _ => ?_) (fun z => absurd z (by decide))
      exact h _ _ _ sm mg_f2.rf (Or.inl ⟨fun z => p2 z.2, rfl, rfl⟩)
  · first | refine And.intro (fun z => absurd z (by decide)) (fun _ => ?_) | refine And.intro (fun _ => ?_) (fun z => absurd z (by decide))
    exact h _ _ _ sm mg_f2.rf (Or.inl ⟨fun z => p1 z.1, rfl, rfl⟩)

theorem mi_L {x : Int32} : (x.toInt64).toInt = x.toInt := Int32.toInt_toInt64 x
theorem mi_Ladd {x y : Int64} (h1 : -9223372036854775808 ≤ x.toInt + y.toInt) (h2 : x.toInt + y.toInt ≤ 9223372036854775807) : (x + y).toInt = x.toInt + y.toInt := by
  rw [Int64.toInt_add]
  exact Int.bmod_eq_of_le (by omega) (by omega)
theorem mi_Lsub {x y : Int64} (h1 : -9223372036854775808 ≤ x.toInt - y.toInt) (h2 : x.toInt - y.toInt ≤ 9223372036854775807) : (x - y).toInt = x.toInt - y.toInt := by
  rw [Int64.toInt_sub]
  exact Int.bmod_eq_of_le (by omega) (by omega)
theorem mi_Lmul {x y : Int64} (h1 : -9223372036854775808 ≤ x.toInt * y.toInt) (h2 : x.toInt * y.toInt ≤ 9223372036854775807) : (x * y).toInt = x.toInt * y.toInt := by
  rw [Int64.toInt_mul]
  exact Int.bmod_eq_of_le (by omega) (by omega)
theorem mi_Lle {x y : Int64} : x ≤ y ↔ x.toInt ≤ y.toInt := Int64.le_iff_toInt_le
theorem mi_Llt {x y : Int64} : x < y ↔ x.toInt < y.toInt := Int64.lt_iff_toInt_lt
set_option maxHeartbeats 1000000 in
theorem r_within {d : Nat} (hd : 1 ≤ d) (a i n : Int32) {I : mv_I} {J : mv_J} {Q : mv_Q} (ha : rg a 0 3) (h1 : (0 ≤ i.toInt ∧ i.toInt + n.toInt ≤ (I 83 a.toNatClampNeg).toInt) → Q (some (.inl 1)) I J) (h0 : ¬ (0 ≤ i.toInt ∧ i.toInt + n.toInt ≤ (I 83 a.toNatClampNeg).toInt) → Q (some (.inl 0)) I J) : mv_wpM mv_tab mv_sh d 127 [.inr (.inr 12), .inl a, .inl i, .inl n] I J Q := by
  obtain ⟨d, rfl⟩ : ∃ e, d = e + 1 := ⟨d - 1, by omega⟩
  refine (show ∃ fu9, mv_wp (mv_wpM mv_tab mv_sh d) mv_sh none tbX8_isWithin flX8 csX8 2 (fun _ _ _ _ _ => False) Q fu9 0 [some (.inr (.inr 12)), some (.inl a), some (.inl i), some (.inl n)] [] I J from ?_)
  refine ⟨60, ?_⟩
  have B : vp_in a 4 := vp_in_iff.mpr ⟨ha.1, by have := ha.2; omega⟩
  have c0 : (0 : Int32).toInt = 0 := by decide
  have es : (i.toInt64 + n.toInt64).toInt = i.toInt + n.toInt := by
    have := mi_max i
    have := mi_max n
    have := mi_min i
    have := mi_min n
    rw [mi_Ladd (by rw [mi_L, mi_L]; omega) (by rw [mi_L, mi_L]; omega), mi_L, mi_L]
  refine And.intro (fun q => ?_) (fun q => ?_)
  · exact And.intro (by decide) (h0 (fun z => by rw [mi_lt] at q; omega))
  · refine And.intro B ?_
    refine And.intro (fun q2 => ?_) (fun q2 => ?_)
    · have q3 := (lg_cmp_gt _ _).mp q2
      rw [mi_Llt, es, mi_L] at q3
      exact And.intro (by decide) (h0 (fun z => by omega))
    · have q3 : ¬ (I 83 a.toNatClampNeg).toInt64 < i.toInt64 + n.toInt64 := fun z => q2 ((lg_cmp_gt _ _).mpr z)
      rw [mi_Llt, es, mi_L] at q3
      rw [mi_lt] at q
      exact And.intro (by decide) (h1 ⟨by omega, by omega⟩)

