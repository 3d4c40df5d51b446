/-- what holds of the system's ints between calls -/
def SC (I : mv_I) : Prop := rg (I 0 7) 0 51 ∧ rg (I 1 2) 0 8 ∧ rg (I 1 9) 0 100 ∧ rg (I 2 2) 0 70 ∧ rg (I 3 6) 0 60 ∧ (∀ j, rg (I 25 j) 0 7) ∧ mg_fl I ∧ mg_or I ∧ (rg (I 8 1) (-1) 2 ∧ rg (I 8 2) 0 60) ∧ (rg (I 9 1) (-1) 2 ∧ rg (I 9 2) 0 60) ∧ (rg (I 10 1) (-1) 2 ∧ rg (I 10 2) 0 60) ∧ (rg (I 11 1) (-1) 2 ∧ rg (I 11 2) 0 60)
theorem mg_or.kp {I I' : mv_I} (h : mg_or I) (e4 : I' 4 7 = I 4 7) (e1 : I' 45 = I 45) (e2 : I' 46 = I 46) : mg_or I' := by
  unfold mg_or at *
  rw [e4, e1, e2]
  exact h
def sp_works (a : Int32) (I : mv_I) (r : Int32) (I' : mv_I) : Prop := (¬ (1 ≤ a ∧ a ≤ 1000) ∧ r = -1 ∧ I' = I) ∨ ((1 ≤ a ∧ a ≤ 1000) ∧ (I 1 2).toInt = 8 ∧ r = -3 ∧ I' = I) ∨ ((1 ≤ a ∧ a ≤ 1000) ∧ (I 1 2).toInt < 8 ∧ r = I 1 2 + 1 - 1 ∧ I' = va_up (va_up I 13 (upd (I 13) (I 1 2).toNatClampNeg a)) 1 (upd (I 1) 2 (I 1 2 + 1)))
set_option maxHeartbeats 1000000 in
theorem F_works {d : Nat} (hd : 4 ≤ d) (a : Int32) {I : mv_I} {J : mv_J} {Q : mv_Q} (sc : SC I) (h : ∀ (r : Int32) (I' : mv_I), SC I' → mg_f2 [13] [(1, 2)] I I' → sp_works a I r I' → Q (some (.inl r)) I' J) : mv_wpM mv_tab mv_sh d 47 [.inr (.inr 0), .inl a] I J Q := by
  obtain ⟨d, rfl⟩ : ∃ e, d = e + 1 := ⟨d - 1, by omega⟩
  refine (show ∃ fu9, mv_wp (mv_wpM mv_tab mv_sh d) mv_sh none tbX7_works flX7 csX7 1 (fun _ _ _ _ _ => False) Q fu9 0 [some (.inr (.inr 0)), some (.inl a)] [] I J from ?_)
  refine ⟨60, ?_⟩
  obtain ⟨s1, s2, s3, s4, s5, s6, s7, s8, s9, s10, s11, s12⟩ := id sc
  refine c_isWithin (by omega) a 1 1000 (fun p => ?_) (fun p => ?_)
  · first | refine And.intro (fun z => absurd z (by decide)) (fun _ => ?_) | refine And.intro (fun _ => ?_) (fun z => absurd z (by decide))
    refine s_addWorks (by omega) a s2 (fun q => ?_) (fun q => ?_)
    · exact h _ _ sc mg_f2.rf (Or.inr (Or.inl ⟨p, q, rfl, rfl⟩))
    · have f : mg_f2 [13] [(1, 2)] I (va_up (va_up I 13 (upd (I 13) (I 1 2).toNatClampNeg a)) 1 (upd (I 1) 2 (I 1 2 + 1))) := mg_f2.uf (mg_f2.up mg_f2.rf rfl) rfl
      have e1 := mi_inc q (by omega)
      refine h _ _ ⟨(show rg (_ : Int32) _ _ by rw [f 0 7 rfl rfl]; exact s1), (show rg (I 1 2 + 1) 0 8 from ⟨by have := s2.1; omega, by omega⟩), (show rg (_ : Int32) _ _ by rw [f 1 9 rfl rfl]; exact s3), (show rg (_ : Int32) _ _ by rw [f 2 2 rfl rfl]; exact s4), (show rg (_ : Int32) _ _ by rw [f 3 6 rfl rfl]; exact s5), (fun j => (by rw [f 25 j rfl rfl]; exact s6 j)), (s7.kp (f 4 7 rfl rfl) (f2_fn (c := 31) f rfl (fun _ => rfl)) (f2_fn (c := 32) f rfl (fun _ => rfl)) (f2_fn (c := 33) f rfl (fun _ => rfl))), (s8.kp (f 4 7 rfl rfl) (f2_fn (c := 45) f rfl (fun _ => rfl)) (f2_fn (c := 46) f rfl (fun _ => rfl))), ⟨(show rg (_ : Int32) _ _ by rw [f 8 1 rfl rfl]; exact s9.1), (show rg (_ : Int32) _ _ by rw [f 8 2 rfl rfl]; exact s9.2)⟩, ⟨(show rg (_ : Int32) _ _ by rw [f 9 1 rfl rfl]; exact s10.1), (show rg (_ : Int32) _ _ by rw [f 9 2 rfl rfl]; exact s10.2)⟩, ⟨(show rg (_ : Int32) _ _ by rw [f 10 1 rfl rfl]; exact s11.1), (show rg (_ : Int32) _ _ by rw [f 10 2 rfl rfl]; exact s11.2)⟩, ⟨(show rg (_ : Int32) _ _ by rw [f 11 1 rfl rfl]; exact s12.1), (show rg (_ : Int32) _ _ by rw [f 11 2 rfl rfl]; exact s12.2)⟩⟩ f (Or.inr (Or.inr ⟨p, q, rfl, rfl⟩))
  · first | refine And.intro (fun z => absurd z (by decide)) (fun _ => ?_) | refine And.intro (fun _ => ?_) (fun z => absurd z (by decide))
    exact h _ _ sc mg_f2.rf (Or.inl ⟨p, rfl, rfl⟩)

def sp_weeks (a : Int32) (I : mv_I) (r : Int32) (I' : mv_I) : Prop := (¬ (0 ≤ a ∧ a ≤ 51 - I 0 7) ∧ r = -1 ∧ I' = I) ∨ ((0 ≤ a ∧ a ≤ 51 - I 0 7) ∧ r = I 0 7 + a ∧ I' = va_up I 0 (upd (I 0) 7 (I 0 7 + a)))
set_option maxHeartbeats 1000000 in
theorem F_weeks {d : Nat} (hd : 4 ≤ d) (a : Int32) {I : mv_I} {J : mv_J} {Q : mv_Q} (sc : SC I) (h : ∀ (r : Int32) (I' : mv_I), SC I' → mg_f2 [] [(0, 7)] I I' → sp_weeks a I r I' → Q (some (.inl r)) I' J) : mv_wpM mv_tab mv_sh d 48 [.inr (.inr 0), .inl a] I J Q := by
  obtain ⟨d, rfl⟩ : ∃ e, d = e + 1 := ⟨d - 1, by omega⟩
  refine (show ∃ fu9, mv_wp (mv_wpM mv_tab mv_sh d) mv_sh none tbX7_weeks flX7 csX7 1 (fun _ _ _ _ _ => False) Q fu9 0 [some (.inr (.inr 0)), some (.inl a)] [] I J from ?_)
  refine ⟨60, ?_⟩
  obtain ⟨s1, s2, s3, s4, s5, s6, s7, s8, s9, s10, s11, s12⟩ := id sc
  obtain ⟨n0, n1⟩ := id s1
  refine c_isWithin (by omega) a 0 _ (fun p => ?_) (fun p => ?_)
  · first | refine And.intro (fun z => absurd z (by decide)) (fun _ => ?_) | refine And.intro (fun _ => ?_) (fun z => absurd z (by decide))
    have f : mg_f2 [] [(0, 7)] I (va_up I 0 (upd (I 0) 7 (I 0 7 + a))) := mg_f2.uf mg_f2.rf rfl
    have c51 : (51 : Int32).toInt = 51 := by decide
    have e2 : (51 - I 0 7).toInt = 51 - (I 0 7).toInt := by rw [mi_sub (by omega) (by omega), c51]
    have p2 := p
    rw [mi_le, mi_le, e2] at p2
    have := mi_l
    have e3 : (I 0 7 + a).toInt = (I 0 7).toInt + a.toInt := mi_add (by omega) (by omega)
    refine h _ _ ⟨(show rg (I 0 7 + a) 0 51 from ⟨by omega, by omega⟩), (show rg (_ : Int32) _ _ by rw [f 1 2 rfl rfl]; exact s2), (show rg (_ : Int32) _ _ by rw [f 1 9 rfl rfl]; exact s3), (show rg (_ : Int32) _ _ by rw [f 2 2 rfl rfl]; exact s4), (show rg (_ : Int32) _ _ by rw [f 3 6 rfl rfl]; exact s5), (fun j => (by rw [f 25 j rfl rfl]; exact s6 j)), (s7.kp (f 4 7 rfl rfl) (f2_fn (c := 31) f rfl (fun _ => rfl)) (f2_fn (c := 32) f rfl (fun _ => rfl)) (f2_fn (c := 33) f rfl (fun _ => rfl))), (s8.kp (f 4 7 rfl rfl) (f2_fn (c := 45) f rfl (fun _ => rfl)) (f2_fn (c := 46) f rfl (fun _ => rfl))), ⟨(show rg (_ : Int32) _ _ by rw [f 8 1 rfl rfl]; exact s9.1), (show rg (_ : Int32) _ _ by rw [f 8 2 rfl rfl]; exact s9.2)⟩, ⟨(show rg (_ : Int32) _ _ by rw [f 9 1 rfl rfl]; exact s10.1), (show rg (_ : Int32) _ _ by rw [f 9 2 rfl rfl]; exact s10.2)⟩, ⟨(show rg (_ : Int32) _ _ by rw [f 10 1 rfl rfl]; exact s11.1), (show rg (_ : Int32) _ _ by rw [f 10 2 rfl rfl]; exact s11.2)⟩, ⟨(show rg (_ : Int32) _ _ by rw [f 11 1 rfl rfl]; exact s12.1), (show rg (_ : Int32) _ _ by rw [f 11 2 rfl rfl]; exact s12.2)⟩⟩ f (Or.inr ⟨p, rfl, rfl⟩)
  · first | refine And.intro (fun z => absurd z (by decide)) (fun _ => ?_) | refine And.intro (fun _ => ?_) (fun z => absurd z (by decide))
    exact h _ _ sc mg_f2.rf (Or.inl ⟨p, rfl, rfl⟩)

def ok_lot (a b c n : Int32) : Prop := (0 ≤ a ∧ a < n) ∧ (0 ≤ b ∧ b ≤ 1000) ∧ (1 ≤ c ∧ c ≤ 10000)
def sp_lot (a b c : Int32) (I : mv_I) (r : Int32) (I' : mv_I) : Prop := (¬ ok_lot a b c (I 1 2) ∧ r = -1 ∧ I' = I) ∨ (ok_lot a b c (I 1 2) ∧ (I 3 6).toInt = 60 ∧ r = -3 ∧ I' = I) ∨ (ok_lot a b c (I 1 2) ∧ (I 3 6).toInt < 60 ∧ r = I 3 6 + 1 - 1 ∧ I' = (va_up (va_up (va_up (va_up (va_up I 25 (upd (I 25) (I 3 6).toNatClampNeg a)) 26 (upd (I 26) (I 3 6).toNatClampNeg b)) 28 (upd (I 28) (I 3 6).toNatClampNeg c)) 27 (upd (I 27) (I 3 6).toNatClampNeg (I 0 7))) 3 (upd (I 3) 6 (I 3 6 + 1))))
set_option maxHeartbeats 1000000 in
theorem F_lot {d : Nat} (hd : 4 ≤ d) (a b c : Int32) {I : mv_I} {J : mv_J} {Q : mv_Q} (sc : SC I) (h : ∀ (r : Int32) (I' : mv_I), SC I' → mg_f2 [25, 26, 27, 28] [(3, 6)] I I' → sp_lot a b c I r I' → Q (some (.inl r)) I' J) : mv_wpM mv_tab mv_sh d 49 [.inr (.inr 0), .inl a, .inl b, .inl c] I J Q := by
  obtain ⟨d, rfl⟩ : ∃ e, d = e + 1 := ⟨d - 1, by omega⟩
  refine (show ∃ fu9, mv_wp (mv_wpM mv_tab mv_sh d) mv_sh none tbX7_lot flX7 csX7 1 (fun _ _ _ _ _ => False) Q fu9 0 [some (.inr (.inr 0)), some (.inl a), some (.inl b), some (.inl c)] [] I J from ?_)
  refine ⟨80, ?_⟩
  obtain ⟨s1, s2, s3, s4, s5, s6, s7, s8, s9, s10, s11, s12⟩ := id sc
  refine c_hasWorks (by omega) a (fun p1 => ?_) (fun p1 => ?_)
  · first | refine And.intro (fun z => absurd z (by decide)) (fun _ => ?_) | refine And.intro (fun _ => ?_) (fun z => absurd z (by decide))
    refine c_isWithin (by omega) b 0 1000 (fun p2 => ?_) (fun p2 => ?_)
    · first | refine And.intro (fun z => absurd z (by decide)) (fun _ => ?_) | refine And.intro (fun _ => ?_) (fun z => absurd z (by decide))
      refine c_isWithin (by omega) c 1 10000 (fun p3 => ?_) (fun p3 => ?_)
      · first | refine And.intro (fun z => absurd z (by decide)) (fun _ => ?_) | refine And.intro (fun _ => ?_) (fun z => absurd z (by decide))
        refine s_addLot (by omega) a b c _ s5 (fun q => ?_) (fun q => ?_)
        · exact h _ _ sc mg_f2.rf (Or.inr (Or.inl ⟨⟨p1, p2, p3⟩, q, rfl, rfl⟩))
        · have f : mg_f2 [25, 26, 27, 28] [(3, 6)] I (va_up (va_up (va_up (va_up (va_up I 25 (upd (I 25) (I 3 6).toNatClampNeg a)) 26 (upd (I 26) (I 3 6).toNatClampNeg b)) 28 (upd (I 28) (I 3 6).toNatClampNeg c)) 27 (upd (I 27) (I 3 6).toNatClampNeg (I 0 7))) 3 (upd (I 3) 6 (I 3 6 + 1))) := mg_f2.uf (mg_f2.up (mg_f2.up (mg_f2.up (mg_f2.up mg_f2.rf rfl) rfl) rfl) rfl) rfl
          have e1 := mi_inc q (by omega)
          have ha : rg a 0 7 := by
            obtain ⟨z1, z2⟩ := p1
            rw [mi_le] at z1
            rw [mi_lt] at z2
            have := s2.2
            have := mi_l
            exact ⟨by omega, by omega⟩
          refine h _ _ ⟨(show rg (_ : Int32) _ _ by rw [f 0 7 rfl rfl]; exact s1), (show rg (_ : Int32) _ _ by rw [f 1 2 rfl rfl]; exact s2), (show rg (_ : Int32) _ _ by rw [f 1 9 rfl rfl]; exact s3), (show rg (_ : Int32) _ _ by rw [f 2 2 rfl rfl]; exact s4), (show rg (I 3 6 + 1) 0 60 from ⟨by have := s5.1; omega, by omega⟩), (fun j => (show rg (upd (I 25) (I 3 6).toNatClampNeg a j) 0 7 by unfold upd; split; exact ha; exact s6 j)), (s7.kp (f 4 7 rfl rfl) (f2_fn (c := 31) f rfl (fun _ => rfl)) (f2_fn (c := 32) f rfl (fun _ => rfl)) (f2_fn (c := 33) f rfl (fun _ => rfl))), (s8.kp (f 4 7 rfl rfl) (f2_fn (c := 45) f rfl (fun _ => rfl)) (f2_fn (c := 46) f rfl (fun _ => rfl))), ⟨(show rg (_ : Int32) _ _ by rw [f 8 1 rfl rfl]; exact s9.1), (show rg (_ : Int32) _ _ by rw [f 8 2 rfl rfl]; exact s9.2)⟩, ⟨(show rg (_ : Int32) _ _ by rw [f 9 1 rfl rfl]; exact s10.1), (show rg (_ : Int32) _ _ by rw [f 9 2 rfl rfl]; exact s10.2)⟩, ⟨(show rg (_ : Int32) _ _ by rw [f 10 1 rfl rfl]; exact s11.1), (show rg (_ : Int32) _ _ by rw [f 10 2 rfl rfl]; exact s11.2)⟩, ⟨(show rg (_ : Int32) _ _ by rw [f 11 1 rfl rfl]; exact s12.1), (show rg (_ : Int32) _ _ by rw [f 11 2 rfl rfl]; exact s12.2)⟩⟩ f (Or.inr (Or.inr ⟨⟨p1, p2, p3⟩, q, rfl, rfl⟩))
      · first | refine And.intro (fun z => absurd z (by decide)) (fun _ => ?_) | refine And.intro (fun _ => ?_) (fun z => absurd z (by decide))
        exact h _ _ sc mg_f2.rf (Or.inl ⟨fun z => p3 z.2.2, rfl, rfl⟩)
    · first | refine And.intro (fun z => absurd z (by decide)) (fun _ => ?_) | refine And.intro (fun _ => ?_) (fun z => absurd z (by decide))
      exact h _ _ sc mg_f2.rf (Or.inl ⟨fun z => p2 z.2.1, rfl, rfl⟩)
  · first | refine And.intro (fun z => absurd z (by decide)) (fun _ => ?_) | refine And.intro (fun _ => ?_) (fun z => absurd z (by decide))
    exact h _ _ sc mg_f2.rf (Or.inl ⟨fun z => p1 z.1, rfl, rfl⟩)

theorem mg_lt {a n : Int32} {m : Int} (p : 0 ≤ a ∧ a < n) (h : n.toInt ≤ m) : rg a 0 (m - 1) := by
  obtain ⟨z1, z2⟩ := p
  rw [mi_le] at z1
  rw [mi_lt] at z2
  have := mi_l
  exact ⟨by omega, by omega⟩
theorem mg_le {a : Int32} {m n : Int32} (p : m ≤ a ∧ a ≤ n) : rg a m.toInt n.toInt := ⟨mi_le.mp p.1, mi_le.mp p.2⟩
def sp_rail (a b : Int32) (I : mv_I) (r : Int32) (I' : mv_I) : Prop := (¬ ((0 ≤ a ∧ a < I 3 6) ∧ 1 ≤ b) ∧ r = -1 ∧ I' = I) ∨ (((0 ≤ a ∧ a < I 3 6) ∧ 1 ≤ b) ∧ ¬ b ≤ I 28 a.toNatClampNeg ∧ r = -2 ∧ I' = I) ∨ (((0 ≤ a ∧ a < I 3 6) ∧ 1 ≤ b) ∧ b ≤ I 28 a.toNatClampNeg ∧ r = I 28 a.toNatClampNeg - b ∧ I' = (va_up (va_up I 28 (upd (I 28) a.toNatClampNeg (I 28 a.toNatClampNeg - b))) 29 (upd (I 29) a.toNatClampNeg (I 29 a.toNatClampNeg + b))))
set_option maxHeartbeats 1000000 in
theorem F_rail {d : Nat} (hd : 4 ≤ d) (a b : Int32) {I : mv_I} {J : mv_J} {Q : mv_Q} (sc : SC I) (h : ∀ (r : Int32) (I' : mv_I), SC I' → mg_f2 [28, 29] [] I I' → sp_rail a b I r I' → Q (some (.inl r)) I' J) : mv_wpM mv_tab mv_sh d 50 [.inr (.inr 0), .inl a, .inl b] I J Q := by
  obtain ⟨d, rfl⟩ : ∃ e, d = e + 1 := ⟨d - 1, by omega⟩
  refine (show ∃ fu9, mv_wp (mv_wpM mv_tab mv_sh d) mv_sh none tbX7_rail flX7 csX7 1 (fun _ _ _ _ _ => False) Q fu9 0 [some (.inr (.inr 0)), some (.inl a), some (.inl b)] [] I J from ?_)
  refine ⟨60, ?_⟩
  obtain ⟨s1, s2, s3, s4, s5, s6, s7, s8, s9, s10, s11, s12⟩ := id sc
  refine c_hasLot (by omega) a (fun p1 => ?_) (fun p1 => ?_)
  · first | refine And.intro (fun z => absurd z (by decide)) (fun _ => ?_) | refine And.intro (fun _ => ?_) (fun z => absurd z (by decide))
    have ha : rg a 0 59 := mg_lt p1 s5.2
    have B : vp_in a 60 := vp_in_iff.mpr ⟨ha.1, by have := ha.2; omega⟩
    refine And.intro (fun q1 => ?_) (fun q1 => ?_)
    · refine And.intro B ?_
      refine And.intro (fun q2 => ?_) (fun q2 => ?_)
      · refine s_toPort (by omega) a b ha ?_
        refine And.intro B ?_
        have f : mg_f2 [28, 29] [] I (va_up (va_up I 28 (upd (I 28) a.toNatClampNeg (I 28 a.toNatClampNeg - b))) 29 (upd (I 29) a.toNatClampNeg (I 29 a.toNatClampNeg + b))) := mg_f2.up (mg_f2.up mg_f2.rf rfl) rfl
        refine h _ _ ⟨(show rg (_ : Int32) _ _ by rw [f 0 7 rfl rfl]; exact s1), (show rg (_ : Int32) _ _ by rw [f 1 2 rfl rfl]; exact s2), (show rg (_ : Int32) _ _ by rw [f 1 9 rfl rfl]; exact s3), (show rg (_ : Int32) _ _ by rw [f 2 2 rfl rfl]; exact s4), (show rg (_ : Int32) _ _ by rw [f 3 6 rfl rfl]; exact s5), (fun j => (by rw [f 25 j rfl rfl]; exact s6 j)), (s7.kp (f 4 7 rfl rfl) (f2_fn (c := 31) f rfl (fun _ => rfl)) (f2_fn (c := 32) f rfl (fun _ => rfl)) (f2_fn (c := 33) f rfl (fun _ => rfl))), (s8.kp (f 4 7 rfl rfl) (f2_fn (c := 45) f rfl (fun _ => rfl)) (f2_fn (c := 46) f rfl (fun _ => rfl))), ⟨(show rg (_ : Int32) _ _ by rw [f 8 1 rfl rfl]; exact s9.1), (show rg (_ : Int32) _ _ by rw [f 8 2 rfl rfl]; exact s9.2)⟩, ⟨(show rg (_ : Int32) _ _ by rw [f 9 1 rfl rfl]; exact s10.1), (show rg (_ : Int32) _ _ by rw [f 9 2 rfl rfl]; exact s10.2)⟩, ⟨(show rg (_ : Int32) _ _ by rw [f 10 1 rfl rfl]; exact s11.1), (show rg (_ : Int32) _ _ by rw [f 10 2 rfl rfl]; exact s11.2)⟩, ⟨(show rg (_ : Int32) _ _ by rw [f 11 1 rfl rfl]; exact s12.1), (show rg (_ : Int32) _ _ by rw [f 11 2 rfl rfl]; exact s12.2)⟩⟩ f (Or.inr (Or.inr ⟨⟨p1, q1⟩, q2, ?_, rfl⟩))
        show upd (I 28) a.toNatClampNeg (I 28 a.toNatClampNeg - b) a.toNatClampNeg = _
        unfold upd
        rw [if_pos rfl]
      · exact h _ _ sc mg_f2.rf (Or.inr (Or.inl ⟨⟨p1, q1⟩, q2, rfl, rfl⟩))
    · exact h _ _ sc mg_f2.rf (Or.inl ⟨fun z => q1 z.2, rfl, rfl⟩)
  · first | refine And.intro (fun z => absurd z (by decide)) (fun _ => ?_) | refine And.intro (fun _ => ?_) (fun z => absurd z (by decide))
    exact h _ _ sc mg_f2.rf (Or.inl ⟨fun z => p1 z.1, rfl, rfl⟩)

set_option maxHeartbeats 1000000 in
theorem F_told {d : Nat} (hd : 4 ≤ d) (a b : Int32) {I : mv_I} {J : mv_J} {Q : mv_Q} (sc : SC I) (h : ∀ (r : Int32), Q (some (.inl r)) I J) : mv_wpM mv_tab mv_sh d 51 [.inr (.inr 0), .inl a, .inl b] I J Q := by
  obtain ⟨d, rfl⟩ : ∃ e, d = e + 1 := ⟨d - 1, by omega⟩
  refine (show ∃ fu9, mv_wp (mv_wpM mv_tab mv_sh d) mv_sh none tbX7_told flX7 csX7 1 (fun _ _ _ _ _ => False) Q fu9 0 [some (.inr (.inr 0)), some (.inl a), some (.inl b)] [] I J from ?_)
  refine ⟨60, ?_⟩
  obtain ⟨s1, s2, s3, s4, s5, s6, s7, s8, s9, s10, s11, s12⟩ := id sc
  refine c_hasLot (by omega) a (fun p1 => ?_) (fun p1 => ?_)
  · first | refine And.intro (fun z => absurd z (by decide)) (fun _ => ?_) | refine And.intro (fun _ => ?_) (fun z => absurd z (by decide))
    have ha : rg a 0 59 := mg_lt p1 s5.2
    have B : vp_in a 60 := vp_in_iff.mpr ⟨ha.1, by have := ha.2; omega⟩
    refine And.intro (fun _ => h _) (And.intro (fun _ => ?_) (And.intro (fun _ => ?_) (And.intro (fun _ => ?_) (And.intro (fun _ => ?_) (And.intro (fun _ => ?_) (And.intro (fun _ => ?_) trivial))))))
    all_goals exact And.intro B (h _)
  · first | refine And.intro (fun z => absurd z (by decide)) (fun _ => ?_) | refine And.intro (fun _ => ?_) (fun z => absurd z (by decide))
    exact h _

def sp_total (a : Int32) (I : mv_I) (r : Int32) (I' : mv_I) : Prop := (¬ (0 ≤ a ∧ a ≤ 1000000) ∧ r = -1 ∧ I' = I) ∨ ((0 ≤ a ∧ a ≤ 1000000) ∧ r = I 1 3 ∧ I' = va_up I 1 (upd (I 1) 3 a))
set_option maxHeartbeats 1000000 in
theorem F_total {d : Nat} (hd : 4 ≤ d) (a : Int32) {I : mv_I} {J : mv_J} {Q : mv_Q} (sc : SC I) (h : ∀ (r : Int32) (I' : mv_I), SC I' → mg_f2 [] [(1, 3)] I I' → sp_total a I r I' → Q (some (.inl r)) I' J) : mv_wpM mv_tab mv_sh d 52 [.inr (.inr 0), .inl a] I J Q := by
  obtain ⟨d, rfl⟩ : ∃ e, d = e + 1 := ⟨d - 1, by omega⟩
  refine (show ∃ fu9, mv_wp (mv_wpM mv_tab mv_sh d) mv_sh none tbX7_total flX7 csX7 1 (fun _ _ _ _ _ => False) Q fu9 0 [some (.inr (.inr 0)), some (.inl a), none] [] I J from ?_)
  refine ⟨60, ?_⟩
  obtain ⟨s1, s2, s3, s4, s5, s6, s7, s8, s9, s10, s11, s12⟩ := id sc
  refine c_isWithin (by omega) a 0 1000000 (fun p => ?_) (fun p => ?_)
  · first | refine And.intro (fun z => absurd z (by decide)) (fun _ => ?_) | refine And.intro (fun _ => ?_) (fun z => absurd z (by decide))
    have f : mg_f2 [] [(1, 3)] I (va_up I 1 (upd (I 1) 3 a)) := mg_f2.uf mg_f2.rf rfl
    refine h _ _ ⟨(show rg (_ : Int32) _ _ by rw [f 0 7 rfl rfl]; exact s1), (show rg (_ : Int32) _ _ by rw [f 1 2 rfl rfl]; exact s2), (show rg (_ : Int32) _ _ by rw [f 1 9 rfl rfl]; exact s3), (show rg (_ : Int32) _ _ by rw [f 2 2 rfl rfl]; exact s4), (show rg (_ : Int32) _ _ by rw [f 3 6 rfl rfl]; exact s5), (fun j => (by rw [f 25 j rfl rfl]; exact s6 j)), (s7.kp (f 4 7 rfl rfl) (f2_fn (c := 31) f rfl (fun _ => rfl)) (f2_fn (c := 32) f rfl (fun _ => rfl)) (f2_fn (c := 33) f rfl (fun _ => rfl))), (s8.kp (f 4 7 rfl rfl) (f2_fn (c := 45) f rfl (fun _ => rfl)) (f2_fn (c := 46) f rfl (fun _ => rfl))), ⟨(show rg (_ : Int32) _ _ by rw [f 8 1 rfl rfl]; exact s9.1), (show rg (_ : Int32) _ _ by rw [f 8 2 rfl rfl]; exact s9.2)⟩, ⟨(show rg (_ : Int32) _ _ by rw [f 9 1 rfl rfl]; exact s10.1), (show rg (_ : Int32) _ _ by rw [f 9 2 rfl rfl]; exact s10.2)⟩, ⟨(show rg (_ : Int32) _ _ by rw [f 10 1 rfl rfl]; exact s11.1), (show rg (_ : Int32) _ _ by rw [f 10 2 rfl rfl]; exact s11.2)⟩, ⟨(show rg (_ : Int32) _ _ by rw [f 11 1 rfl rfl]; exact s12.1), (show rg (_ : Int32) _ _ by rw [f 11 2 rfl rfl]; exact s12.2)⟩⟩ f (Or.inr ⟨p, rfl, rfl⟩)
  · first | refine And.intro (fun z => absurd z (by decide)) (fun _ => ?_) | refine And.intro (fun _ => ?_) (fun z => absurd z (by decide))
    exact h _ _ sc mg_f2.rf (Or.inl ⟨p, rfl, rfl⟩)

def sp_bar (a : Int32) (I : mv_I) (r : Int32) (I' : mv_I) : Prop := (¬ (0 ≤ a ∧ a ≤ 9) ∧ r = -1 ∧ I' = I) ∨ ((0 ≤ a ∧ a ≤ 9) ∧ r = I 5 1 ∧ I' = va_up I 5 (upd (I 5) 1 a))
set_option maxHeartbeats 1000000 in
theorem F_bar {d : Nat} (hd : 4 ≤ d) (a : Int32) {I : mv_I} {J : mv_J} {Q : mv_Q} (sc : SC I) (h : ∀ (r : Int32) (I' : mv_I), SC I' → mg_f2 [] [(5, 1)] I I' → sp_bar a I r I' → Q (some (.inl r)) I' J) : mv_wpM mv_tab mv_sh d 71 [.inr (.inr 0), .inl a] I J Q := by
  obtain ⟨d, rfl⟩ : ∃ e, d = e + 1 := ⟨d - 1, by omega⟩
  refine (show ∃ fu9, mv_wp (mv_wpM mv_tab mv_sh d) mv_sh none tbX7_bar flX7 csX7 1 (fun _ _ _ _ _ => False) Q fu9 0 [some (.inr (.inr 0)), some (.inl a), none] [] I J from ?_)
  refine ⟨60, ?_⟩
  obtain ⟨s1, s2, s3, s4, s5, s6, s7, s8, s9, s10, s11, s12⟩ := id sc
  refine c_isWithin (by omega) a 0 9 (fun p => ?_) (fun p => ?_)
  · first | refine And.intro (fun z => absurd z (by decide)) (fun _ => ?_) | refine And.intro (fun _ => ?_) (fun z => absurd z (by decide))
    have f : mg_f2 [] [(5, 1)] I (va_up I 5 (upd (I 5) 1 a)) := mg_f2.uf mg_f2.rf rfl
    refine h _ _ ⟨(show rg (_ : Int32) _ _ by rw [f 0 7 rfl rfl]; exact s1), (show rg (_ : Int32) _ _ by rw [f 1 2 rfl rfl]; exact s2), (show rg (_ : Int32) _ _ by rw [f 1 9 rfl rfl]; exact s3), (show rg (_ : Int32) _ _ by rw [f 2 2 rfl rfl]; exact s4), (show rg (_ : Int32) _ _ by rw [f 3 6 rfl rfl]; exact s5), (fun j => (by rw [f 25 j rfl rfl]; exact s6 j)), (s7.kp (f 4 7 rfl rfl) (f2_fn (c := 31) f rfl (fun _ => rfl)) (f2_fn (c := 32) f rfl (fun _ => rfl)) (f2_fn (c := 33) f rfl (fun _ => rfl))), (s8.kp (f 4 7 rfl rfl) (f2_fn (c := 45) f rfl (fun _ => rfl)) (f2_fn (c := 46) f rfl (fun _ => rfl))), ⟨(show rg (_ : Int32) _ _ by rw [f 8 1 rfl rfl]; exact s9.1), (show rg (_ : Int32) _ _ by rw [f 8 2 rfl rfl]; exact s9.2)⟩, ⟨(show rg (_ : Int32) _ _ by rw [f 9 1 rfl rfl]; exact s10.1), (show rg (_ : Int32) _ _ by rw [f 9 2 rfl rfl]; exact s10.2)⟩, ⟨(show rg (_ : Int32) _ _ by rw [f 10 1 rfl rfl]; exact s11.1), (show rg (_ : Int32) _ _ by rw [f 10 2 rfl rfl]; exact s11.2)⟩, ⟨(show rg (_ : Int32) _ _ by rw [f 11 1 rfl rfl]; exact s12.1), (show rg (_ : Int32) _ _ by rw [f 11 2 rfl rfl]; exact s12.2)⟩⟩ f (Or.inr ⟨p, rfl, rfl⟩)
  · first | refine And.intro (fun z => absurd z (by decide)) (fun _ => ?_) | refine And.intro (fun _ => ?_) (fun z => absurd z (by decide))
    exact h _ _ sc mg_f2.rf (Or.inl ⟨p, rfl, rfl⟩)

set_option maxHeartbeats 1000000 in
theorem F_lend {d : Nat} (hd : 7 ≤ d) (a b c : Int32) {I : mv_I} {J : mv_J} {Q : mv_Q} (sc : SC I) (h : ∀ (r : Int32) (I' : mv_I), SC I' → mg_f2 [15, 16, 17, 18, 19, 20, 21, 22] [(1, 9)] I I' → Q (some (.inl r)) I' J) : mv_wpM mv_tab mv_sh d 53 [.inr (.inr 0), .inl a, .inl b, .inl c] I J Q := by
  obtain ⟨d, rfl⟩ : ∃ e, d = e + 1 := ⟨d - 1, by omega⟩
  refine (show ∃ fu9, mv_wp (mv_wpM mv_tab mv_sh d) mv_sh none tbX7_lend flX7 csX7 1 (fun _ _ _ _ _ => False) Q fu9 0 [some (.inr (.inr 0)), some (.inl a), some (.inl b), some (.inl c)] [] I J from ?_)
  refine ⟨80, ?_⟩
  obtain ⟨s1, s2, s3, s4, s5, s6, s7, s8, s9, s10, s11, s12⟩ := id sc
  refine c_hasWorks (by omega) a (fun p1 => ?_) (fun p1 => ?_)
  · first | refine And.intro (fun z => absurd z (by decide)) (fun _ => ?_) | refine And.intro (fun _ => ?_) (fun z => absurd z (by decide))
    refine c_hasWorks (by omega) b (fun p2 => ?_) (fun p2 => ?_)
    · first | refine And.intro (fun z => absurd z (by decide)) (fun _ => ?_) | refine And.intro (fun _ => ?_) (fun z => absurd z (by decide))
      refine And.intro (fun q1 => ?_) (fun q1 => ?_)
      · exact h _ _ sc mg_f2.rf
      · refine c_isWithin (by omega) c 1 _ (fun p3 => ?_) (fun p3 => ?_)
        · first | refine And.intro (fun z => absurd z (by decide)) (fun _ => ?_) | refine And.intro (fun _ => ?_) (fun z => absurd z (by decide))
          have ha : rg a 0 7 := mg_lt p1 s2.2
          refine s_unshipped (by omega) a _ s3 ha s2 (fun r I2 f2 => ?_)
          have f3 : mg_f2 [15, 16, 17, 18, 19, 20, 21, 22] [(1, 9)] I I2 := (mg_f2.of f2).mono rfl rfl
          refine And.intro (fun q2 => ?_) (fun q2 => ?_)
          · refine s_addEntry (by omega) _ _ _ _ _ (by rw [congrFun (f2 1 rfl) 9]; exact s3) (fun r4 I4 f4 g4 => ?_)
            have f5 : mg_f2 [15, 16, 17, 18, 19, 20, 21, 22] [(1, 9)] I I4 := f3.tr (f4.mono rfl rfl)
            exact h _ _ ⟨(show rg (_ : Int32) _ _ by rw [f5 0 7 rfl rfl]; exact s1), (show rg (_ : Int32) _ _ by rw [f5 1 2 rfl rfl]; exact s2), g4, (show rg (_ : Int32) _ _ by rw [f5 2 2 rfl rfl]; exact s4), (show rg (_ : Int32) _ _ by rw [f5 3 6 rfl rfl]; exact s5), (fun j => (by rw [f5 25 j rfl rfl]; exact s6 j)), (s7.kp (f5 4 7 rfl rfl) (f2_fn (c := 31) f5 rfl (fun _ => rfl)) (f2_fn (c := 32) f5 rfl (fun _ => rfl)) (f2_fn (c := 33) f5 rfl (fun _ => rfl))), (s8.kp (f5 4 7 rfl rfl) (f2_fn (c := 45) f5 rfl (fun _ => rfl)) (f2_fn (c := 46) f5 rfl (fun _ => rfl))), ⟨(show rg (_ : Int32) _ _ by rw [f5 8 1 rfl rfl]; exact s9.1), (show rg (_ : Int32) _ _ by rw [f5 8 2 rfl rfl]; exact s9.2)⟩, ⟨(show rg (_ : Int32) _ _ by rw [f5 9 1 rfl rfl]; exact s10.1), (show rg (_ : Int32) _ _ by rw [f5 9 2 rfl rfl]; exact s10.2)⟩, ⟨(show rg (_ : Int32) _ _ by rw [f5 10 1 rfl rfl]; exact s11.1), (show rg (_ : Int32) _ _ by rw [f5 10 2 rfl rfl]; exact s11.2)⟩, ⟨(show rg (_ : Int32) _ _ by rw [f5 11 1 rfl rfl]; exact s12.1), (show rg (_ : Int32) _ _ by rw [f5 11 2 rfl rfl]; exact s12.2)⟩⟩ f5
          · exact h _ _ ⟨(show rg (_ : Int32) _ _ by rw [f3 0 7 rfl rfl]; exact s1), (show rg (_ : Int32) _ _ by rw [f3 1 2 rfl rfl]; exact s2), (by rw [congrFun (f2 1 rfl) 9]; exact s3), (show rg (_ : Int32) _ _ by rw [f3 2 2 rfl rfl]; exact s4), (show rg (_ : Int32) _ _ by rw [f3 3 6 rfl rfl]; exact s5), (fun j => (by rw [f3 25 j rfl rfl]; exact s6 j)), (s7.kp (f3 4 7 rfl rfl) (f2_fn (c := 31) f3 rfl (fun _ => rfl)) (f2_fn (c := 32) f3 rfl (fun _ => rfl)) (f2_fn (c := 33) f3 rfl (fun _ => rfl))), (s8.kp (f3 4 7 rfl rfl) (f2_fn (c := 45) f3 rfl (fun _ => rfl)) (f2_fn (c := 46) f3 rfl (fun _ => rfl))), ⟨(show rg (_ : Int32) _ _ by rw [f3 8 1 rfl rfl]; exact s9.1), (show rg (_ : Int32) _ _ by rw [f3 8 2 rfl rfl]; exact s9.2)⟩, ⟨(show rg (_ : Int32) _ _ by rw [f3 9 1 rfl rfl]; exact s10.1), (show rg (_ : Int32) _ _ by rw [f3 9 2 rfl rfl]; exact s10.2)⟩, ⟨(show rg (_ : Int32) _ _ by rw [f3 10 1 rfl rfl]; exact s11.1), (show rg (_ : Int32) _ _ by rw [f3 10 2 rfl rfl]; exact s11.2)⟩, ⟨(show rg (_ : Int32) _ _ by rw [f3 11 1 rfl rfl]; exact s12.1), (show rg (_ : Int32) _ _ by rw [f3 11 2 rfl rfl]; exact s12.2)⟩⟩ f3
        · first | refine And.intro (fun z => absurd z (by decide)) (fun _ => ?_) | refine And.intro (fun _ => ?_) (fun z => absurd z (by decide))
          exact h _ _ sc mg_f2.rf
    · first | refine And.intro (fun z => absurd z (by decide)) (fun _ => ?_) | refine And.intro (fun _ => ?_) (fun z => absurd z (by decide))
      exact h _ _ sc mg_f2.rf
  · first | refine And.intro (fun z => absurd z (by decide)) (fun _ => ?_) | refine And.intro (fun _ => ?_) (fun z => absurd z (by decide))
    exact h _ _ sc mg_f2.rf

set_option maxHeartbeats 1000000 in
theorem F_shut {d : Nat} (hd : 4 ≤ d) (a b c : Int32) {I : mv_I} {J : mv_J} {Q : mv_Q} (sc : SC I) (h : ∀ (r : Int32) (I' : mv_I), SC I' → mg_f2 [15, 16, 17, 18, 19] [(1, 9)] I I' → Q (some (.inl r)) I' J) : mv_wpM mv_tab mv_sh d 55 [.inr (.inr 0), .inl a, .inl b, .inl c] I J Q := by
  obtain ⟨d, rfl⟩ : ∃ e, d = e + 1 := ⟨d - 1, by omega⟩
  refine (show ∃ fu9, mv_wp (mv_wpM mv_tab mv_sh d) mv_sh none tbX7_shut flX7 csX7 1 (fun _ _ _ _ _ => False) Q fu9 0 [some (.inr (.inr 0)), some (.inl a), some (.inl b), some (.inl c)] [] I J from ?_)
  refine ⟨80, ?_⟩
  obtain ⟨s1, s2, s3, s4, s5, s6, s7, s8, s9, s10, s11, s12⟩ := id sc
  refine c_hasWorks (by omega) a (fun p1 => ?_) (fun p1 => ?_)
  · first | refine And.intro (fun z => absurd z (by decide)) (fun _ => ?_) | refine And.intro (fun _ => ?_) (fun z => absurd z (by decide))
    refine c_isWeek (by omega) c (fun p2 => ?_) (fun p2 => ?_)
    · first | refine And.intro (fun z => absurd z (by decide)) (fun _ => ?_) | refine And.intro (fun _ => ?_) (fun z => absurd z (by decide))
      refine And.intro (fun q1 => ?_) (fun q1 => ?_)
      · exact s_addEntry (by omega) _ _ _ _ _ s3 (fun r4 I4 f5 g4 => h _ _ ⟨(show rg (_ : Int32) _ _ by rw [f5 0 7 rfl rfl]; exact s1), (show rg (_ : Int32) _ _ by rw [f5 1 2 rfl rfl]; exact s2), g4, (show rg (_ : Int32) _ _ by rw [f5 2 2 rfl rfl]; exact s4), (show rg (_ : Int32) _ _ by rw [f5 3 6 rfl rfl]; exact s5), (fun j => (by rw [f5 25 j rfl rfl]; exact s6 j)), (s7.kp (f5 4 7 rfl rfl) (f2_fn (c := 31) f5 rfl (fun _ => rfl)) (f2_fn (c := 32) f5 rfl (fun _ => rfl)) (f2_fn (c := 33) f5 rfl (fun _ => rfl))), (s8.kp (f5 4 7 rfl rfl) (f2_fn (c := 45) f5 rfl (fun _ => rfl)) (f2_fn (c := 46) f5 rfl (fun _ => rfl))), ⟨(show rg (_ : Int32) _ _ by rw [f5 8 1 rfl rfl]; exact s9.1), (show rg (_ : Int32) _ _ by rw [f5 8 2 rfl rfl]; exact s9.2)⟩, ⟨(show rg (_ : Int32) _ _ by rw [f5 9 1 rfl rfl]; exact s10.1), (show rg (_ : Int32) _ _ by rw [f5 9 2 rfl rfl]; exact s10.2)⟩, ⟨(show rg (_ : Int32) _ _ by rw [f5 10 1 rfl rfl]; exact s11.1), (show rg (_ : Int32) _ _ by rw [f5 10 2 rfl rfl]; exact s11.2)⟩, ⟨(show rg (_ : Int32) _ _ by rw [f5 11 1 rfl rfl]; exact s12.1), (show rg (_ : Int32) _ _ by rw [f5 11 2 rfl rfl]; exact s12.2)⟩⟩ f5)
      · exact s_addEntry (by omega) _ _ _ _ _ s3 (fun r4 I4 f5 g4 => h _ _ ⟨(show rg (_ : Int32) _ _ by rw [f5 0 7 rfl rfl]; exact s1), (show rg (_ : Int32) _ _ by rw [f5 1 2 rfl rfl]; exact s2), g4, (show rg (_ : Int32) _ _ by rw [f5 2 2 rfl rfl]; exact s4), (show rg (_ : Int32) _ _ by rw [f5 3 6 rfl rfl]; exact s5), (fun j => (by rw [f5 25 j rfl rfl]; exact s6 j)), (s7.kp (f5 4 7 rfl rfl) (f2_fn (c := 31) f5 rfl (fun _ => rfl)) (f2_fn (c := 32) f5 rfl (fun _ => rfl)) (f2_fn (c := 33) f5 rfl (fun _ => rfl))), (s8.kp (f5 4 7 rfl rfl) (f2_fn (c := 45) f5 rfl (fun _ => rfl)) (f2_fn (c := 46) f5 rfl (fun _ => rfl))), ⟨(show rg (_ : Int32) _ _ by rw [f5 8 1 rfl rfl]; exact s9.1), (show rg (_ : Int32) _ _ by rw [f5 8 2 rfl rfl]; exact s9.2)⟩, ⟨(show rg (_ : Int32) _ _ by rw [f5 9 1 rfl rfl]; exact s10.1), (show rg (_ : Int32) _ _ by rw [f5 9 2 rfl rfl]; exact s10.2)⟩, ⟨(show rg (_ : Int32) _ _ by rw [f5 10 1 rfl rfl]; exact s11.1), (show rg (_ : Int32) _ _ by rw [f5 10 2 rfl rfl]; exact s11.2)⟩, ⟨(show rg (_ : Int32) _ _ by rw [f5 11 1 rfl rfl]; exact s12.1), (show rg (_ : Int32) _ _ by rw [f5 11 2 rfl rfl]; exact s12.2)⟩⟩ f5)
    · first | refine And.intro (fun z => absurd z (by decide)) (fun _ => ?_) | refine And.intro (fun _ => ?_) (fun z => absurd z (by decide))
      exact h _ _ sc mg_f2.rf
  · first | refine And.intro (fun z => absurd z (by decide)) (fun _ => ?_) | refine And.intro (fun _ => ?_) (fun z => absurd z (by decide))
    exact h _ _ sc mg_f2.rf

set_option maxHeartbeats 1000000 in
theorem F_open {d : Nat} (hd : 5 ≤ d) (a b c : Int32) {I : mv_I} {J : mv_J} {Q : mv_Q} (sc : SC I) (h : ∀ (r : Int32), Q (some (.inl r)) I J) : mv_wpM mv_tab mv_sh d 57 [.inr (.inr 0), .inl a, .inl b, .inl c] I J Q := by
  obtain ⟨d, rfl⟩ : ∃ e, d = e + 1 := ⟨d - 1, by omega⟩
  refine (show ∃ fu9, mv_wp (mv_wpM mv_tab mv_sh d) mv_sh none tbX7_open flX7 csX7 1 (fun _ _ _ _ _ => False) Q fu9 0 [some (.inr (.inr 0)), some (.inl a), some (.inl b), some (.inl c)] [] I J from ?_)
  refine ⟨60, ?_⟩
  obtain ⟨s1, s2, s3, s4, s5, s6, s7, s8, s9, s10, s11, s12⟩ := id sc
  refine c_isAsked (by omega) a b c (fun p => ?_) (fun p => ?_)
  · first | refine And.intro (fun z => absurd z (by decide)) (fun _ => ?_) | refine And.intro (fun _ => ?_) (fun z => absurd z (by decide))
    refine s_isOpen (by omega) a b c ⟨(mg_le p.2.2).1, Int.le_trans (mg_le p.2.2).2 s3.2⟩ (fun r hr => ?_)
    refine And.intro (fun q1 => ?_) (fun q1 => ?_)
    · exact h _
    · exact h _
  · first | refine And.intro (fun z => absurd z (by decide)) (fun _ => ?_) | refine And.intro (fun _ => ?_) (fun z => absurd z (by decide))
    exact h _

set_option maxHeartbeats 1000000 in
theorem F_quota {d : Nat} (hd : 6 ≤ d) (a b c : Int32) {I : mv_I} {J : mv_J} {Q : mv_Q} (sc : SC I) (h : ∀ (r : Int32) (I' : mv_I), SC I' → mg_f2 [20, 21, 22] [] I I' → Q (some (.inl r)) I' J) : mv_wpM mv_tab mv_sh d 58 [.inr (.inr 0), .inl a, .inl b, .inl c] I J Q := by
  obtain ⟨d, rfl⟩ : ∃ e, d = e + 1 := ⟨d - 1, by omega⟩
  refine (show ∃ fu9, mv_wp (mv_wpM mv_tab mv_sh d) mv_sh none tbX7_quota flX7 csX7 1 (fun _ _ _ _ _ => False) Q fu9 0 [some (.inr (.inr 0)), some (.inl a), some (.inl b), some (.inl c)] [] I J from ?_)
  refine ⟨60, ?_⟩
  obtain ⟨s1, s2, s3, s4, s5, s6, s7, s8, s9, s10, s11, s12⟩ := id sc
  refine c_isAsked (by omega) a b c (fun p => ?_) (fun p => ?_)
  · first | refine And.intro (fun z => absurd z (by decide)) (fun _ => ?_) | refine And.intro (fun _ => ?_) (fun z => absurd z (by decide))
    refine s_quotaOf (by omega) a b c ⟨(mg_le p.2.2).1, Int.le_trans (mg_le p.2.2).2 s3.2⟩ (mg_lt p.1 s2.2) s2 (fun r I2 f2 => ?_)
    have f3 : mg_f2 [20, 21, 22] [] I I2 := mg_f2.of f2
    exact h _ _ ⟨(show rg (_ : Int32) _ _ by rw [f3 0 7 rfl rfl]; exact s1), (show rg (_ : Int32) _ _ by rw [f3 1 2 rfl rfl]; exact s2), (show rg (_ : Int32) _ _ by rw [f3 1 9 rfl rfl]; exact s3), (show rg (_ : Int32) _ _ by rw [f3 2 2 rfl rfl]; exact s4), (show rg (_ : Int32) _ _ by rw [f3 3 6 rfl rfl]; exact s5), (fun j => (by rw [f3 25 j rfl rfl]; exact s6 j)), (s7.kp (f3 4 7 rfl rfl) (f2_fn (c := 31) f3 rfl (fun _ => rfl)) (f2_fn (c := 32) f3 rfl (fun _ => rfl)) (f2_fn (c := 33) f3 rfl (fun _ => rfl))), (s8.kp (f3 4 7 rfl rfl) (f2_fn (c := 45) f3 rfl (fun _ => rfl)) (f2_fn (c := 46) f3 rfl (fun _ => rfl))), ⟨(show rg (_ : Int32) _ _ by rw [f3 8 1 rfl rfl]; exact s9.1), (show rg (_ : Int32) _ _ by rw [f3 8 2 rfl rfl]; exact s9.2)⟩, ⟨(show rg (_ : Int32) _ _ by rw [f3 9 1 rfl rfl]; exact s10.1), (show rg (_ : Int32) _ _ by rw [f3 9 2 rfl rfl]; exact s10.2)⟩, ⟨(show rg (_ : Int32) _ _ by rw [f3 10 1 rfl rfl]; exact s11.1), (show rg (_ : Int32) _ _ by rw [f3 10 2 rfl rfl]; exact s11.2)⟩, ⟨(show rg (_ : Int32) _ _ by rw [f3 11 1 rfl rfl]; exact s12.1), (show rg (_ : Int32) _ _ by rw [f3 11 2 rfl rfl]; exact s12.2)⟩⟩ f3
  · first | refine And.intro (fun z => absurd z (by decide)) (fun _ => ?_) | refine And.intro (fun _ => ?_) (fun z => absurd z (by decide))
    exact h _ _ sc mg_f2.rf

set_option maxHeartbeats 1000000 in
theorem F_left {d : Nat} (hd : 7 ≤ d) (a : Int32) {I : mv_I} {J : mv_J} {Q : mv_Q} (sc : SC I) (h : ∀ (r : Int32) (I' : mv_I), SC I' → mg_f2 [20, 21, 22] [] I I' → Q (some (.inl r)) I' J) : mv_wpM mv_tab mv_sh d 59 [.inr (.inr 0), .inl a] I J Q := by
  obtain ⟨d, rfl⟩ : ∃ e, d = e + 1 := ⟨d - 1, by omega⟩
  refine (show ∃ fu9, mv_wp (mv_wpM mv_tab mv_sh d) mv_sh none tbX7_left flX7 csX7 1 (fun _ _ _ _ _ => False) Q fu9 0 [some (.inr (.inr 0)), some (.inl a)] [] I J from ?_)
  refine ⟨60, ?_⟩
  obtain ⟨s1, s2, s3, s4, s5, s6, s7, s8, s9, s10, s11, s12⟩ := id sc
  refine c_hasWorks (by omega) a (fun p1 => ?_) (fun p1 => ?_)
  · first | refine And.intro (fun z => absurd z (by decide)) (fun _ => ?_) | refine And.intro (fun _ => ?_) (fun z => absurd z (by decide))
    refine s_unshipped (by omega) a _ s3 (mg_lt p1 s2.2) s2 (fun r I2 f2 => ?_)
    have f3 : mg_f2 [20, 21, 22] [] I I2 := mg_f2.of f2
    exact h _ _ ⟨(show rg (_ : Int32) _ _ by rw [f3 0 7 rfl rfl]; exact s1), (show rg (_ : Int32) _ _ by rw [f3 1 2 rfl rfl]; exact s2), (show rg (_ : Int32) _ _ by rw [f3 1 9 rfl rfl]; exact s3), (show rg (_ : Int32) _ _ by rw [f3 2 2 rfl rfl]; exact s4), (show rg (_ : Int32) _ _ by rw [f3 3 6 rfl rfl]; exact s5), (fun j => (by rw [f3 25 j rfl rfl]; exact s6 j)), (s7.kp (f3 4 7 rfl rfl) (f2_fn (c := 31) f3 rfl (fun _ => rfl)) (f2_fn (c := 32) f3 rfl (fun _ => rfl)) (f2_fn (c := 33) f3 rfl (fun _ => rfl))), (s8.kp (f3 4 7 rfl rfl) (f2_fn (c := 45) f3 rfl (fun _ => rfl)) (f2_fn (c := 46) f3 rfl (fun _ => rfl))), ⟨(show rg (_ : Int32) _ _ by rw [f3 8 1 rfl rfl]; exact s9.1), (show rg (_ : Int32) _ _ by rw [f3 8 2 rfl rfl]; exact s9.2)⟩, ⟨(show rg (_ : Int32) _ _ by rw [f3 9 1 rfl rfl]; exact s10.1), (show rg (_ : Int32) _ _ by rw [f3 9 2 rfl rfl]; exact s10.2)⟩, ⟨(show rg (_ : Int32) _ _ by rw [f3 10 1 rfl rfl]; exact s11.1), (show rg (_ : Int32) _ _ by rw [f3 10 2 rfl rfl]; exact s11.2)⟩, ⟨(show rg (_ : Int32) _ _ by rw [f3 11 1 rfl rfl]; exact s12.1), (show rg (_ : Int32) _ _ by rw [f3 11 2 rfl rfl]; exact s12.2)⟩⟩ f3
  · first | refine And.intro (fun z => absurd z (by decide)) (fun _ => ?_) | refine And.intro (fun _ => ?_) (fun z => absurd z (by decide))
    exact h _ _ sc mg_f2.rf

def sp_type (w : Int64) (n : Int32) (I : mv_I) (r : Int32) (I' : mv_I) : Prop := (¬ vt_ok w n ∧ r = -1 ∧ I' = I) ∨ (vt_ok w n ∧ ¬ (I 2 2).toInt + n.toInt ≤ 70 ∧ r = -3 ∧ I' = I) ∨ (vt_ok w n ∧ (I 2 2).toInt + n.toInt ≤ 70 ∧ r = I' 2 2 ∧ (I' 2 2).toInt = (I 2 2).toInt + n.toInt)
set_option maxHeartbeats 1000000 in
theorem F_type {d : Nat} (hd : 4 ≤ d) (n : Int32) (w : Int64) {I : mv_I} {J : mv_J} {Q : mv_Q} (sc : SC I) (h : ∀ (r : Int32) (I' : mv_I), SC I' → mg_f2 [24] [(2, 2)] I I' → sp_type w n I r I' → Q (some (.inl r)) I' J) : mv_wpM mv_tab mv_sh d 60 [.inr (.inr 0), .inr (.inl w), .inl n] I J Q := by
  obtain ⟨d, rfl⟩ : ∃ e, d = e + 1 := ⟨d - 1, by omega⟩
  refine (show ∃ fu9, mv_wp (mv_wpM mv_tab mv_sh d) mv_sh none tbX7_type flX7 csX7 1 (fun _ _ _ _ _ => False) Q fu9 0 [some (.inr (.inr 0)), some (.inr (.inl w)), none, some (.inl n)] [] I J from ?_)
  refine ⟨60, ?_⟩
  obtain ⟨s1, s2, s3, s4, s5, s6, s7, s8, s9, s10, s11, s12⟩ := id sc
  refine c_isWithin (by omega) n 1 8 (fun p1 => ?_) (fun p1 => ?_)
  · first | refine And.intro (fun z => absurd z (by decide)) (fun _ => ?_) | refine And.intro (fun _ => ?_) (fun z => absurd z (by decide))
    obtain ⟨N, hN, eN, cN⟩ := mi_18 p1
    refine c_canHold (by omega) n w eN hN (fun p2 => ?_) (fun p2 => ?_)
    · first | refine And.intro (fun z => absurd z (by decide)) (fun _ => ?_) | refine And.intro (fun _ => ?_) (fun z => absurd z (by decide))
      have hv : vt_ok w n := ⟨p1, by rw [cN]; exact p2⟩
      refine s_append (by omega) n w s4 (mg_le p1) (fun q => ?_) (fun q I2 f g => ?_)
      · exact h _ _ sc mg_f2.rf (Or.inr (Or.inl ⟨hv, q, rfl, rfl⟩))
      · have z := (mg_le p1).1
        have := mi_l
        refine h _ _ ⟨(show rg (_ : Int32) _ _ by rw [f 0 7 rfl rfl]; exact s1), (show rg (_ : Int32) _ _ by rw [f 1 2 rfl rfl]; exact s2), (show rg (_ : Int32) _ _ by rw [f 1 9 rfl rfl]; exact s3), (⟨by have := s4.1; omega, by omega⟩), (show rg (_ : Int32) _ _ by rw [f 3 6 rfl rfl]; exact s5), (fun j => (by rw [f 25 j rfl rfl]; exact s6 j)), (s7.kp (f 4 7 rfl rfl) (f2_fn (c := 31) f rfl (fun _ => rfl)) (f2_fn (c := 32) f rfl (fun _ => rfl)) (f2_fn (c := 33) f rfl (fun _ => rfl))), (s8.kp (f 4 7 rfl rfl) (f2_fn (c := 45) f rfl (fun _ => rfl)) (f2_fn (c := 46) f rfl (fun _ => rfl))), ⟨(show rg (_ : Int32) _ _ by rw [f 8 1 rfl rfl]; exact s9.1), (show rg (_ : Int32) _ _ by rw [f 8 2 rfl rfl]; exact s9.2)⟩, ⟨(show rg (_ : Int32) _ _ by rw [f 9 1 rfl rfl]; exact s10.1), (show rg (_ : Int32) _ _ by rw [f 9 2 rfl rfl]; exact s10.2)⟩, ⟨(show rg (_ : Int32) _ _ by rw [f 10 1 rfl rfl]; exact s11.1), (show rg (_ : Int32) _ _ by rw [f 10 2 rfl rfl]; exact s11.2)⟩, ⟨(show rg (_ : Int32) _ _ by rw [f 11 1 rfl rfl]; exact s12.1), (show rg (_ : Int32) _ _ by rw [f 11 2 rfl rfl]; exact s12.2)⟩⟩ f (Or.inr (Or.inr ⟨hv, q, rfl, g⟩))
    · first | refine And.intro (fun z => absurd z (by decide)) (fun _ => ?_) | refine And.intro (fun _ => ?_) (fun z => absurd z (by decide))
      exact h _ _ sc mg_f2.rf (Or.inl ⟨fun z => p2 (by have := z.2; rw [cN] at this; exact this), rfl, rfl⟩)
  · first | refine And.intro (fun z => absurd z (by decide)) (fun _ => ?_) | refine And.intro (fun _ => ?_) (fun z => absurd z (by decide))
    exact h _ _ sc mg_f2.rf (Or.inl ⟨fun z => p1 z.1, rfl, rfl⟩)

set_option maxHeartbeats 1000000 in
theorem F_parts {d : Nat} (hd : 5 ≤ d) {I : mv_I} {J : mv_J} {Q : mv_Q} (sc : SC I) (h : ∀ (r : Int32) (I' : mv_I), SC I' → mg_f2 [13, 23] [(2, 2), (2, 3)] I I' → I' 2 2 = 0 → Q (some (.inl r)) I' J) : mv_wpM mv_tab mv_sh d 61 [.inr (.inr 0)] I J Q := by
  obtain ⟨d, rfl⟩ : ∃ e, d = e + 1 := ⟨d - 1, by omega⟩
  refine (show ∃ fu9, mv_wp (mv_wpM mv_tab mv_sh d) mv_sh none tbX7_parts flX7 csX7 1 (fun _ _ _ _ _ => False) Q fu9 0 [some (.inr (.inr 0)), none] [] I J from ?_)
  refine ⟨60, ?_⟩
  obtain ⟨s1, s2, s3, s4, s5, s6, s7, s8, s9, s10, s11, s12⟩ := id sc
  refine s_readPairs (by omega) _ s2 s4 (fun r I2 t2 => ?_)
  have f : mg_f2 [13, 23] [(2, 2), (2, 3)] I (va_up I2 2 (upd (I2 2) 2 0)) := mg_f2.uf (t2.1.mono rfl rfl) rfl
  refine And.intro (fun q => ?_) (fun q => ?_)
  · exact h _ _ ⟨(show rg (_ : Int32) _ _ by rw [f 0 7 rfl rfl]; exact s1), (show rg (_ : Int32) _ _ by rw [f 1 2 rfl rfl]; exact s2), (show rg (_ : Int32) _ _ by rw [f 1 9 rfl rfl]; exact s3), (show rg (0 : Int32) 0 70 from ⟨by decide, by decide⟩), (show rg (_ : Int32) _ _ by rw [f 3 6 rfl rfl]; exact s5), (fun j => (by rw [f 25 j rfl rfl]; exact s6 j)), (s7.kp (f 4 7 rfl rfl) (f2_fn (c := 31) f rfl (fun _ => rfl)) (f2_fn (c := 32) f rfl (fun _ => rfl)) (f2_fn (c := 33) f rfl (fun _ => rfl))), (s8.kp (f 4 7 rfl rfl) (f2_fn (c := 45) f rfl (fun _ => rfl)) (f2_fn (c := 46) f rfl (fun _ => rfl))), ⟨(show rg (_ : Int32) _ _ by rw [f 8 1 rfl rfl]; exact s9.1), (show rg (_ : Int32) _ _ by rw [f 8 2 rfl rfl]; exact s9.2)⟩, ⟨(show rg (_ : Int32) _ _ by rw [f 9 1 rfl rfl]; exact s10.1), (show rg (_ : Int32) _ _ by rw [f 9 2 rfl rfl]; exact s10.2)⟩, ⟨(show rg (_ : Int32) _ _ by rw [f 10 1 rfl rfl]; exact s11.1), (show rg (_ : Int32) _ _ by rw [f 10 2 rfl rfl]; exact s11.2)⟩, ⟨(show rg (_ : Int32) _ _ by rw [f 11 1 rfl rfl]; exact s12.1), (show rg (_ : Int32) _ _ by rw [f 11 2 rfl rfl]; exact s12.2)⟩⟩ f rfl
  · refine s_takeParts (by omega) (show rg (I2 1 2) 0 8 by rw [t2.1 1 2 rfl rfl]; exact s2) (fun I3 f3 => ?_)
    have g : mg_f2 [13, 23] [(2, 2), (2, 3)] I I3 := f.tr ((mg_f2.of f3).mono rfl rfl)
    have z : I3 2 2 = 0 := congrFun (f3 2 rfl) 2
    exact h _ _ ⟨(show rg (_ : Int32) _ _ by rw [g 0 7 rfl rfl]; exact s1), (show rg (_ : Int32) _ _ by rw [g 1 2 rfl rfl]; exact s2), (show rg (_ : Int32) _ _ by rw [g 1 9 rfl rfl]; exact s3), (by rw [z]; exact ⟨by decide, by decide⟩), (show rg (_ : Int32) _ _ by rw [g 3 6 rfl rfl]; exact s5), (fun j => (by rw [g 25 j rfl rfl]; exact s6 j)), (s7.kp (g 4 7 rfl rfl) (f2_fn (c := 31) g rfl (fun _ => rfl)) (f2_fn (c := 32) g rfl (fun _ => rfl)) (f2_fn (c := 33) g rfl (fun _ => rfl))), (s8.kp (g 4 7 rfl rfl) (f2_fn (c := 45) g rfl (fun _ => rfl)) (f2_fn (c := 46) g rfl (fun _ => rfl))), ⟨(show rg (_ : Int32) _ _ by rw [g 8 1 rfl rfl]; exact s9.1), (show rg (_ : Int32) _ _ by rw [g 8 2 rfl rfl]; exact s9.2)⟩, ⟨(show rg (_ : Int32) _ _ by rw [g 9 1 rfl rfl]; exact s10.1), (show rg (_ : Int32) _ _ by rw [g 9 2 rfl rfl]; exact s10.2)⟩, ⟨(show rg (_ : Int32) _ _ by rw [g 10 1 rfl rfl]; exact s11.1), (show rg (_ : Int32) _ _ by rw [g 10 2 rfl rfl]; exact s11.2)⟩, ⟨(show rg (_ : Int32) _ _ by rw [g 11 1 rfl rfl]; exact s12.1), (show rg (_ : Int32) _ _ by rw [g 11 2 rfl rfl]; exact s12.2)⟩⟩ g z

