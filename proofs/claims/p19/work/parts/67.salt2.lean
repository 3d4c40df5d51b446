def ok_ship (a b c e f : Int32) : Prop := (0 ≤ a ∧ a ≤ 59) ∧ (1 ≤ b ∧ b ≤ 20000) ∧ (1 ≤ c ∧ c ≤ 2000) ∧ (0 ≤ e ∧ e ≤ 30) ∧ (0 ≤ f ∧ f ≤ 100)
def sp_ship (a b c e f : Int32) (I : mv_I) (r : Int32) (I' : mv_I) : Prop := (¬ ok_ship a b c e f ∧ r = -1 ∧ I' = I) ∨ (ok_ship a b c e f ∧ (I 4 7).toInt = 6 ∧ r = -3 ∧ I' = I) ∨ (ok_ship a b c e f ∧ (I 4 7).toInt < 6 ∧ r = I 4 7 + 1 - 1 ∧ I' = (va_up (va_up (va_up (va_up (va_up (va_up I 31 (upd (I 31) (I 4 7).toNatClampNeg a)) 32 (upd (I 32) (I 4 7).toNatClampNeg b)) 33 (upd (I 33) (I 4 7).toNatClampNeg c)) 34 (upd (I 34) (I 4 7).toNatClampNeg e)) 35 (upd (I 35) (I 4 7).toNatClampNeg f)) 4 (upd (I 4) 7 (I 4 7 + 1))))
theorem mg_fl_ship {I : mv_I} (h : mg_fl I) {a b c e f : Int32} (ok : ok_ship a b c e f) (q : (I 4 7).toInt < 6) : mg_fl (va_up (va_up (va_up (va_up (va_up (va_up I 31 (upd (I 31) (I 4 7).toNatClampNeg a)) 32 (upd (I 32) (I 4 7).toNatClampNeg b)) 33 (upd (I 33) (I 4 7).toNatClampNeg c)) 34 (upd (I 34) (I 4 7).toNatClampNeg e)) 35 (upd (I 35) (I 4 7).toNatClampNeg f)) 4 (upd (I 4) 7 (I 4 7 + 1))) := by
  obtain ⟨f1, f2, f3, f4⟩ := h
  obtain ⟨o1, o2, o3, o4, o5⟩ := ok
  have o1 : rg a 0 59 := mg_le o1
  have o2 : rg b 1 20000 := mg_le o2
  have o3 : rg c 1 2000 := mg_le o3
  have e1 := mi_inc q (by omega)
  have ecl := mi_cl f1.1
  refine ⟨(show rg (I 4 7 + 1) 0 6 from ⟨by have := f1.1; omega, by omega⟩), fun j => (show rg (upd (I 31) (I 4 7).toNatClampNeg a j) 0 59 from ?_), fun j => ⟨(show rg (upd (I 32) (I 4 7).toNatClampNeg b j) 0 20000 from ?_), (show rg (upd (I 33) (I 4 7).toNatClampNeg c j) 0 2000 from ?_)⟩, fun j hj => ⟨(show 1 ≤ (upd (I 32) (I 4 7).toNatClampNeg b j).toInt from ?_), (show 1 ≤ (upd (I 33) (I 4 7).toNatClampNeg c j).toInt from ?_)⟩⟩
  · unfold upd; split; exact o1; exact f2 j
  · unfold upd; split; exact ⟨by have := o2.1; omega, o2.2⟩; exact (f3 j).1
  · unfold upd; split; exact ⟨by have := o3.1; omega, o3.2⟩; exact (f3 j).2
  all_goals
    have hj : (j : Int) < (I 4 7 + 1).toInt := hj
    unfold upd
    by_cases z : j = (I 4 7).toNatClampNeg
    · rw [if_pos z]; first | exact o2.1 | exact o3.1
    · rw [if_neg z]
      have z2 := f4 j (by omega)
      first | exact z2.1 | exact z2.2
theorem mg_of.inc {x n : Int32} (h : mg_of x n) (hn : n.toInt < 6) : mg_of x (n + 1) := by
  have e1 := mi_inc hn (by omega)
  exact ⟨h.1, by rcases h.2 with z | z; exact Or.inl z; exact Or.inr (by omega)⟩
set_option maxHeartbeats 1000000 in
theorem F_ship {d : Nat} (hd : 4 ≤ d) (a b c e f : Int32) {I : mv_I} {J : mv_J} {Q : mv_Q} (sc : SC I) (h : ∀ (r : Int32) (I' : mv_I), SC I' → mg_f2 [31, 32, 33, 34, 35] [(4, 7)] I I' → sp_ship a b c e f I r I' → Q (some (.inl r)) I' J) : mv_wpM mv_tab mv_sh d 63 [.inr (.inr 0), .inl a, .inl b, .inl c, .inl e, .inl f] I J Q := by
  obtain ⟨d, rfl⟩ : ∃ e, d = e + 1 := ⟨d - 1, by omega⟩
  refine (show ∃ fu9, mv_wp (mv_wpM mv_tab mv_sh d) mv_sh none tbX7_ship flX7 csX7 1 (fun _ _ _ _ _ => False) Q fu9 0 [some (.inr (.inr 0)), some (.inl a), some (.inl b), some (.inl c), some (.inl e), some (.inl f)] [] I J from ?_)
  refine ⟨80, ?_⟩
  obtain ⟨s1, s2, s3, s4, s5, s6, s7, s8, s9, s10, s11, s12⟩ := id sc
  refine c_isDay (by omega) a (fun p1 => ?_) (fun p1 => ?_)
  · first | refine And.intro (fun z => absurd z (by decide)) (fun _ => ?_) | refine And.intro (fun _ => ?_) (fun z => absurd z (by decide))
    refine c_isWithin (by omega) b 1 20000 (fun p2 => ?_) (fun p2 => ?_)
    · first | refine And.intro (fun z => absurd z (by decide)) (fun _ => ?_) | refine And.intro (fun _ => ?_) (fun z => absurd z (by decide))
      refine c_isWithin (by omega) c 1 2000 (fun p3 => ?_) (fun p3 => ?_)
      · first | refine And.intro (fun z => absurd z (by decide)) (fun _ => ?_) | refine And.intro (fun _ => ?_) (fun z => absurd z (by decide))
        refine c_isWithin (by omega) e 0 30 (fun p4 => ?_) (fun p4 => ?_)
        · first | refine And.intro (fun z => absurd z (by decide)) (fun _ => ?_) | refine And.intro (fun _ => ?_) (fun z => absurd z (by decide))
          refine c_isWithin (by omega) f 0 100 (fun p5 => ?_) (fun p5 => ?_)
          · first | refine And.intro (fun z => absurd z (by decide)) (fun _ => ?_) | refine And.intro (fun _ => ?_) (fun z => absurd z (by decide))
            have ok : ok_ship a b c e f := ⟨p1, p2, p3, p4, p5⟩
            refine s_addShip (by omega) a b c e f s7.1 (fun q => ?_) (fun q => ?_)
            · exact h _ _ sc mg_f2.rf (Or.inr (Or.inl ⟨ok, q, rfl, rfl⟩))
            · have g : mg_f2 [31, 32, 33, 34, 35] [(4, 7)] I (va_up (va_up (va_up (va_up (va_up (va_up I 31 (upd (I 31) (I 4 7).toNatClampNeg a)) 32 (upd (I 32) (I 4 7).toNatClampNeg b)) 33 (upd (I 33) (I 4 7).toNatClampNeg c)) 34 (upd (I 34) (I 4 7).toNatClampNeg e)) 35 (upd (I 35) (I 4 7).toNatClampNeg f)) 4 (upd (I 4) 7 (I 4 7 + 1))) := mg_f2.uf (mg_f2.up (mg_f2.up (mg_f2.up (mg_f2.up (mg_f2.up mg_f2.rf rfl) rfl) rfl) rfl) rfl) rfl
              exact h _ _ ⟨(show rg (_ : Int32) _ _ by rw [g 0 7 rfl rfl]; exact s1), (show rg (_ : Int32) _ _ by rw [g 1 2 rfl rfl]; exact s2), (show rg (_ : Int32) _ _ by rw [g 1 9 rfl rfl]; exact s3), (show rg (_ : Int32) _ _ by rw [g 2 2 rfl rfl]; exact s4), (show rg (_ : Int32) _ _ by rw [g 3 6 rfl rfl]; exact s5), (fun j => (by rw [g 25 j rfl rfl]; exact s6 j)), (mg_fl_ship s7 ok q), ⟨fun j => (s8.1 j).inc q, fun j => (s8.2 j).inc q⟩, ⟨(show rg (_ : Int32) _ _ by rw [g 8 1 rfl rfl]; exact s9.1), (show rg (_ : Int32) _ _ by rw [g 8 2 rfl rfl]; exact s9.2)⟩, ⟨(show rg (_ : Int32) _ _ by rw [g 9 1 rfl rfl]; exact s10.1), (show rg (_ : Int32) _ _ by rw [g 9 2 rfl rfl]; exact s10.2)⟩, ⟨(show rg (_ : Int32) _ _ by rw [g 10 1 rfl rfl]; exact s11.1), (show rg (_ : Int32) _ _ by rw [g 10 2 rfl rfl]; exact s11.2)⟩, ⟨(show rg (_ : Int32) _ _ by rw [g 11 1 rfl rfl]; exact s12.1), (show rg (_ : Int32) _ _ by rw [g 11 2 rfl rfl]; exact s12.2)⟩⟩ g (Or.inr (Or.inr ⟨ok, q, rfl, rfl⟩))
          · first | refine And.intro (fun z => absurd z (by decide)) (fun _ => ?_) | refine And.intro (fun _ => ?_) (fun z => absurd z (by decide))
            exact h _ _ sc mg_f2.rf (Or.inl ⟨fun z => p5 z.2.2.2.2, rfl, rfl⟩)
        · first | refine And.intro (fun z => absurd z (by decide)) (fun _ => ?_) | refine And.intro (fun _ => ?_) (fun z => absurd z (by decide))
          exact h _ _ sc mg_f2.rf (Or.inl ⟨fun z => p4 z.2.2.2.1, rfl, rfl⟩)
      · first | refine And.intro (fun z => absurd z (by decide)) (fun _ => ?_) | refine And.intro (fun _ => ?_) (fun z => absurd z (by decide))
        exact h _ _ sc mg_f2.rf (Or.inl ⟨fun z => p3 z.2.2.1, rfl, rfl⟩)
    · first | refine And.intro (fun z => absurd z (by decide)) (fun _ => ?_) | refine And.intro (fun _ => ?_) (fun z => absurd z (by decide))
      exact h _ _ sc mg_f2.rf (Or.inl ⟨fun z => p2 z.2.1, rfl, rfl⟩)
  · first | refine And.intro (fun z => absurd z (by decide)) (fun _ => ?_) | refine And.intro (fun _ => ?_) (fun z => absurd z (by decide))
    exact h _ _ sc mg_f2.rf (Or.inl ⟨fun z => p1 z.1, rfl, rfl⟩)

set_option maxHeartbeats 1000000 in
theorem F_load {d : Nat} (hd : 7 ≤ d) (a b c : Int32) {I : mv_I} {J : mv_J} {Q : mv_Q} (sc : SC I) (h : ∀ (r : Int32) (I' : mv_I), SC I' → mg_f2 [14, 20, 21, 22, 29, 30, 36, 37] [] I I' → Q (some (.inl r)) I' J) : mv_wpM mv_tab mv_sh d 64 [.inr (.inr 0), .inl a, .inl b, .inl c] I J Q := by
  obtain ⟨d, rfl⟩ : ∃ e, d = e + 1 := ⟨d - 1, by omega⟩
  refine (show ∃ fu9, mv_wp (mv_wpM mv_tab mv_sh d) mv_sh none tbX7_load flX7 csX7 1 (fun _ _ _ _ _ => False) Q fu9 0 [some (.inr (.inr 0)), some (.inl a), some (.inl b), some (.inl c), none] [] I J from ?_)
  refine ⟨120, ?_⟩
  obtain ⟨s1, s2, s3, s4, s5, s6, s7, s8, s9, s10, s11, s12⟩ := id sc
  refine c_hasShip (by omega) a (fun p1 => ?_) (fun p1 => ?_)
  · first | refine And.intro (fun z => absurd z (by decide)) (fun _ => ?_) | refine And.intro (fun _ => ?_) (fun z => absurd z (by decide))
    have ha : rg a 0 5 := mg_lt p1 s7.1.2
    refine c_hasLot (by omega) b (fun p2 => ?_) (fun p2 => ?_)
    · first | refine And.intro (fun z => absurd z (by decide)) (fun _ => ?_) | refine And.intro (fun _ => ?_) (fun z => absurd z (by decide))
      have hb : rg b 0 59 := mg_lt p2 s5.2
      have B : vp_in b 60 := vp_in_iff.mpr ⟨hb.1, by have := hb.2; omega⟩
      refine And.intro (fun q1 => ?_) (fun q1 => ?_)
      · refine And.intro B ?_
        refine And.intro B ?_
        refine And.intro (fun q2 => ?_) (fun q2 => ?_)
        · exact h _ _ sc mg_f2.rf
        · refine s_freeRoom (by omega) a ha ?_
          refine And.intro (fun q3 => ?_) (fun q3 => ?_)
          · exact h _ _ sc mg_f2.rf
          · have hw := s6 b.toNatClampNeg
            refine s_unshipped (by omega) _ _ s3 hw s2 (fun r I2 f2 => ?_)
            have f3 : mg_f2 [14, 20, 21, 22, 29, 30, 36, 37] [] I I2 := (mg_f2.of f2).mono rfl rfl
            have Bw : vp_in (I 25 b.toNatClampNeg) 8 := vp_in_iff.mpr ⟨hw.1, by have := hw.2; omega⟩
            refine And.intro (fun q4 => ?_) (fun q4 => ?_)
            · refine s_toHolds (by omega) b c hb ?_
              refine And.intro Bw ?_
              refine And.intro Bw ?_
              refine s_stow (by omega) a b c ha hb (fun r => ?_)
              generalize hI : va_up (va_up (va_up (va_up (va_up I2 29 _) 30 _) 14 _) 36 _) 37 _ = I9
              have f9 : mg_f2 [14, 20, 21, 22, 29, 30, 36, 37] [] I I9 := by
                rw [← hI]
                exact mg_f2.up (mg_f2.up (mg_f2.up (mg_f2.up (mg_f2.up f3 rfl) rfl) rfl) rfl) rfl
              exact h _ _ ⟨(show rg (_ : Int32) _ _ by rw [f9 0 7 rfl rfl]; exact s1), (show rg (_ : Int32) _ _ by rw [f9 1 2 rfl rfl]; exact s2), (show rg (_ : Int32) _ _ by rw [f9 1 9 rfl rfl]; exact s3), (show rg (_ : Int32) _ _ by rw [f9 2 2 rfl rfl]; exact s4), (show rg (_ : Int32) _ _ by rw [f9 3 6 rfl rfl]; exact s5), (fun j => (by rw [f9 25 j rfl rfl]; exact s6 j)), (s7.kp (f9 4 7 rfl rfl) (f2_fn (c := 31) f9 rfl (fun _ => rfl)) (f2_fn (c := 32) f9 rfl (fun _ => rfl)) (f2_fn (c := 33) f9 rfl (fun _ => rfl))), (s8.kp (f9 4 7 rfl rfl) (f2_fn (c := 45) f9 rfl (fun _ => rfl)) (f2_fn (c := 46) f9 rfl (fun _ => rfl))), ⟨(show rg (_ : Int32) _ _ by rw [f9 8 1 rfl rfl]; exact s9.1), (show rg (_ : Int32) _ _ by rw [f9 8 2 rfl rfl]; exact s9.2)⟩, ⟨(show rg (_ : Int32) _ _ by rw [f9 9 1 rfl rfl]; exact s10.1), (show rg (_ : Int32) _ _ by rw [f9 9 2 rfl rfl]; exact s10.2)⟩, ⟨(show rg (_ : Int32) _ _ by rw [f9 10 1 rfl rfl]; exact s11.1), (show rg (_ : Int32) _ _ by rw [f9 10 2 rfl rfl]; exact s11.2)⟩, ⟨(show rg (_ : Int32) _ _ by rw [f9 11 1 rfl rfl]; exact s12.1), (show rg (_ : Int32) _ _ by rw [f9 11 2 rfl rfl]; exact s12.2)⟩⟩ f9
            · exact h _ _ ⟨(show rg (_ : Int32) _ _ by rw [f3 0 7 rfl rfl]; exact s1), (show rg (_ : Int32) _ _ by rw [f3 1 2 rfl rfl]; exact s2), (show rg (_ : Int32) _ _ by rw [f3 1 9 rfl rfl]; exact s3), (show rg (_ : Int32) _ _ by rw [f3 2 2 rfl rfl]; exact s4), (show rg (_ : Int32) _ _ by rw [f3 3 6 rfl rfl]; exact s5), (fun j => (by rw [f3 25 j rfl rfl]; exact s6 j)), (s7.kp (f3 4 7 rfl rfl) (f2_fn (c := 31) f3 rfl (fun _ => rfl)) (f2_fn (c := 32) f3 rfl (fun _ => rfl)) (f2_fn (c := 33) f3 rfl (fun _ => rfl))), (s8.kp (f3 4 7 rfl rfl) (f2_fn (c := 45) f3 rfl (fun _ => rfl)) (f2_fn (c := 46) f3 rfl (fun _ => rfl))), ⟨(show rg (_ : Int32) _ _ by rw [f3 8 1 rfl rfl]; exact s9.1), (show rg (_ : Int32) _ _ by rw [f3 8 2 rfl rfl]; exact s9.2)⟩, ⟨(show rg (_ : Int32) _ _ by rw [f3 9 1 rfl rfl]; exact s10.1), (show rg (_ : Int32) _ _ by rw [f3 9 2 rfl rfl]; exact s10.2)⟩, ⟨(show rg (_ : Int32) _ _ by rw [f3 10 1 rfl rfl]; exact s11.1), (show rg (_ : Int32) _ _ by rw [f3 10 2 rfl rfl]; exact s11.2)⟩, ⟨(show rg (_ : Int32) _ _ by rw [f3 11 1 rfl rfl]; exact s12.1), (show rg (_ : Int32) _ _ by rw [f3 11 2 rfl rfl]; exact s12.2)⟩⟩ f3
      · exact h _ _ sc mg_f2.rf
    · first | refine And.intro (fun z => absurd z (by decide)) (fun _ => ?_) | refine And.intro (fun _ => ?_) (fun z => absurd z (by decide))
      exact h _ _ sc mg_f2.rf
  · first | refine And.intro (fun z => absurd z (by decide)) (fun _ => ?_) | refine And.intro (fun _ => ?_) (fun z => absurd z (by decide))
    exact h _ _ sc mg_f2.rf

set_option maxHeartbeats 1000000 in
theorem F_held {d : Nat} (hd : 4 ≤ d) (a b : Int32) {I : mv_I} {J : mv_J} {Q : mv_Q} (sc : SC I) (h : ∀ (r : Int32), Q (some (.inl r)) I J) : mv_wpM mv_tab mv_sh d 65 [.inr (.inr 0), .inl a, .inl b] I J Q := by
  obtain ⟨d, rfl⟩ : ∃ e, d = e + 1 := ⟨d - 1, by omega⟩
  refine (show ∃ fu9, mv_wp (mv_wpM mv_tab mv_sh d) mv_sh none tbX7_held flX7 csX7 1 (fun _ _ _ _ _ => False) Q fu9 0 [some (.inr (.inr 0)), some (.inl a), some (.inl b)] [] I J from ?_)
  refine ⟨60, ?_⟩
  obtain ⟨s1, s2, s3, s4, s5, s6, s7, s8, s9, s10, s11, s12⟩ := id sc
  refine c_hasShip (by omega) a (fun p1 => ?_) (fun p1 => ?_)
  · first | refine And.intro (fun z => absurd z (by decide)) (fun _ => ?_) | refine And.intro (fun _ => ?_) (fun z => absurd z (by decide))
    have ha : rg a 0 5 := mg_lt p1 s7.1.2
    have B : vp_in a 6 := vp_in_iff.mpr ⟨ha.1, by have := ha.2; omega⟩
    refine And.intro (fun q1 => ?_) (fun q1 => ?_)
    · refine And.intro (fun q2 => absurd q1 q2) (fun q2 => ?_)
      exact And.intro B (h _)
    · refine c_hasLot (by omega) b (fun p2 => ?_) (fun p2 => ?_)
      · first | refine And.intro (fun z => absurd z (by decide)) (fun _ => ?_) | refine And.intro (fun _ => ?_) (fun z => absurd z (by decide))
        have hb : rg b 0 59 := mg_lt p2 s5.2
        refine And.intro (fun q2 => ?_) (fun q2 => absurd q2 q1)
        exact s_stowedOf (by omega) a b ha hb (h _)
      · first | refine And.intro (fun z => absurd z (by decide)) (fun _ => ?_) | refine And.intro (fun _ => ?_) (fun z => absurd z (by decide))
        exact h _
  · first | refine And.intro (fun z => absurd z (by decide)) (fun _ => ?_) | refine And.intro (fun _ => ?_) (fun z => absurd z (by decide))
    exact h _

set_option maxHeartbeats 1000000 in
theorem l_grade {d : Nat} (hd : 1 ≤ d) {a s : Int32} {I : mv_I} {J : mv_J} {Q : mv_Q} (ha : rg a 0 5) (hs : ¬ s = 0) (hw : rg (I 3 6) 0 60) (h : ∀ r : Int32, Q (some (.inl r)) I J) : ∀ (k fu : Nat) (m x : Int32), 0 ≤ x.toInt → ((I 3 6).toInt - x.toInt).toNat < k → 60 * k ≤ fu → mv_wp (mv_wpM mv_tab mv_sh d) mv_sh none tbX7_grade flX7 csX7 1 (fun _ _ _ _ _ => False) Q fu 35 [some (.inr (.inr 0)), some (.inl a), some (.inl s), some (.inl m), some (.inl x)] [] I J := by
  intro k
  induction k with
  | zero => intro fu m x h0 h1 hf; omega
  | succ k ih =>
    intro fu m x h0 h1 hf
    obtain ⟨fu, rfl⟩ : ∃ z, fu = z + 60 := ⟨fu - 60, by omega⟩
    obtain ⟨hn0, hn1⟩ := id hw
    refine And.intro (fun q => ?_) (fun q => ?_)
    · exact And.intro hs (h _)
    · have qx : x.toInt < (I 3 6).toInt := by (try simp only [mi_le, mi_lt, mi_eq] at *); have := mi_l; omega
      have e1 := mi_incl qx
      refine s_stowedOf (by omega) a x ha ⟨by omega, by omega⟩ ?_
      refine And.intro (vp_in_iff.mpr ⟨by omega, by omega⟩) ?_
      refine And.intro ?_ trivial
      exact ih _ _ _ (by omega) (by omega) (by omega)
set_option maxHeartbeats 1000000 in
theorem F_grade {d : Nat} (hd : 4 ≤ d) (a : Int32) {I : mv_I} {J : mv_J} {Q : mv_Q} (sc : SC I) (h : ∀ (r : Int32), Q (some (.inl r)) I J) : mv_wpM mv_tab mv_sh d 66 [.inr (.inr 0), .inl a] I J Q := by
  obtain ⟨d, rfl⟩ : ∃ e, d = e + 1 := ⟨d - 1, by omega⟩
  refine (show ∃ fu9, mv_wp (mv_wpM mv_tab mv_sh d) mv_sh none tbX7_grade flX7 csX7 1 (fun _ _ _ _ _ => False) Q fu9 0 [some (.inr (.inr 0)), some (.inl a), none, none, none] [] I J from ?_)
  refine ⟨3800, ?_⟩
  obtain ⟨s1, s2, s3, s4, s5, s6, s7, s8, s9, s10, s11, s12⟩ := id sc
  refine c_hasShip (by omega) a (fun p1 => ?_) (fun p1 => ?_)
  · first | refine And.intro (fun z => absurd z (by decide)) (fun _ => ?_) | refine And.intro (fun _ => ?_) (fun z => absurd z (by decide))
    have ha : rg a 0 5 := mg_lt p1 s7.1.2
    have B : vp_in a 6 := vp_in_iff.mpr ⟨ha.1, by have := ha.2; omega⟩
    refine And.intro B ?_
    refine And.intro (fun q1 => ?_) (fun q1 => ?_)
    · refine And.intro ?_ trivial
      exact l_grade (by omega) ha (by intro z; rw [z] at q1; exact absurd q1 (by decide)) s5 h 61 _ _ _ (by decide) (by have := s5.2; have := mi_l; omega) (Nat.le_of_ble_eq_true rfl)
    · exact h _
  · first | refine And.intro (fun z => absurd z (by decide)) (fun _ => ?_) | refine And.intro (fun _ => ?_) (fun z => absurd z (by decide))
    exact h _

set_option maxHeartbeats 1000000 in
theorem F_sea {d : Nat} (hd : 4 ≤ d) (a : Int32) {I : mv_I} {J : mv_J} {Q : mv_Q} (sc : SC I) (h : ∀ (r : Int32), Q (some (.inl r)) I J) : mv_wpM mv_tab mv_sh d 70 [.inr (.inr 0), .inl a] I J Q := by
  obtain ⟨d, rfl⟩ : ∃ e, d = e + 1 := ⟨d - 1, by omega⟩
  refine (show ∃ fu9, mv_wp (mv_wpM mv_tab mv_sh d) mv_sh none tbX7_sea flX7 csX7 1 (fun _ _ _ _ _ => False) Q fu9 0 [some (.inr (.inr 0)), some (.inl a)] [] I J from ?_)
  refine ⟨60, ?_⟩
  obtain ⟨s1, s2, s3, s4, s5, s6, s7, s8, s9, s10, s11, s12⟩ := id sc
  refine c_isDay (by omega) a (fun p1 => ?_) (fun p1 => ?_)
  · first | refine And.intro (fun z => absurd z (by decide)) (fun _ => ?_) | refine And.intro (fun _ => ?_) (fun z => absurd z (by decide))
    exact s_takenOn (by omega) a (mg_le p1) h
  · first | refine And.intro (fun z => absurd z (by decide)) (fun _ => ?_) | refine And.intro (fun _ => ?_) (fun z => absurd z (by decide))
    exact h _

theorem mg_sh1 {n a : Int32} (hn : rg n 0 6) (ha : 1 ≤ a ∧ a ≤ 1 <<< (n &&& 31) - 1) : rg a 1 63 ∧ 1 ≤ n.toInt := by
  have n0 := hn.1
  obtain ⟨j, hj, rfl⟩ := nI_of (x := n) (by simp only [mi_lt]; have := mi_l; omega)
  have h3 := hn.2
  rw [nI_toInt hj] at h3 ⊢
  obtain ⟨a1, a2⟩ := ha
  rw [mi_le] at a1 a2
  have h4 : ∀ j : Nat, j < 7 → ((1 : Int32) <<< (nI j &&& 31) - 1).toInt ≤ 63 ∧ (j = 0 → ((1 : Int32) <<< (nI j &&& 31) - 1).toInt = 0) := by decide +kernel
  have h5 := h4 j (by omega)
  have := mi_l
  refine ⟨⟨by omega, by omega⟩, ?_⟩
  by_cases z : j = 0
  · have := h5.2 z
    omega
  · omega
set_option maxHeartbeats 1000000 in
theorem F_lay {d : Nat} (hd : 11 ≤ d) (a : Int32) {I : mv_I} {J : mv_J} {Q : mv_Q} (sc : SC I) (h : ∀ (r : Int32) (I' : mv_I), SC I' → mg_f2 [39, 40, 41, 42, 43, 44, 45, 46] [(5, 4), (5, 5), (6, 4), (6, 7)] I I' → Q (some (.inl r)) I' J) : mv_wpM mv_tab mv_sh d 72 [.inr (.inr 0), .inl a] I J Q := by
  obtain ⟨d, rfl⟩ : ∃ e, d = e + 1 := ⟨d - 1, by omega⟩
  refine (show ∃ fu9, mv_wp (mv_wpM mv_tab mv_sh d) mv_sh none tbX7_lay flX7 csX7 1 (fun _ _ _ _ _ => False) Q fu9 0 [some (.inr (.inr 0)), some (.inl a)] [] I J from ?_)
  refine ⟨60, ?_⟩
  obtain ⟨s1, s2, s3, s4, s5, s6, s7, s8, s9, s10, s11, s12⟩ := id sc
  refine c_isWithin (by omega) a 1 _ (fun p => ?_) (fun p => ?_)
  · first | refine And.intro (fun z => absurd z (by decide)) (fun _ => ?_) | refine And.intro (fun _ => ?_) (fun z => absurd z (by decide))
    obtain ⟨z1, z2⟩ := mg_sh1 s7.1 p
    exact s_layCheapest (by omega) a z1 z2 s7 s8 (fun r I2 f o => h _ _ ⟨(show rg (_ : Int32) _ _ by rw [f 0 7 rfl rfl]; exact s1), (show rg (_ : Int32) _ _ by rw [f 1 2 rfl rfl]; exact s2), (show rg (_ : Int32) _ _ by rw [f 1 9 rfl rfl]; exact s3), (show rg (_ : Int32) _ _ by rw [f 2 2 rfl rfl]; exact s4), (show rg (_ : Int32) _ _ by rw [f 3 6 rfl rfl]; exact s5), (fun j => (by rw [f 25 j rfl rfl]; exact s6 j)), (s7.kp (f 4 7 rfl rfl) (f2_fn (c := 31) f rfl (fun _ => rfl)) (f2_fn (c := 32) f rfl (fun _ => rfl)) (f2_fn (c := 33) f rfl (fun _ => rfl))), o, ⟨(show rg (_ : Int32) _ _ by rw [f 8 1 rfl rfl]; exact s9.1), (show rg (_ : Int32) _ _ by rw [f 8 2 rfl rfl]; exact s9.2)⟩, ⟨(show rg (_ : Int32) _ _ by rw [f 9 1 rfl rfl]; exact s10.1), (show rg (_ : Int32) _ _ by rw [f 9 2 rfl rfl]; exact s10.2)⟩, ⟨(show rg (_ : Int32) _ _ by rw [f 10 1 rfl rfl]; exact s11.1), (show rg (_ : Int32) _ _ by rw [f 10 2 rfl rfl]; exact s11.2)⟩, ⟨(show rg (_ : Int32) _ _ by rw [f 11 1 rfl rfl]; exact s12.1), (show rg (_ : Int32) _ _ by rw [f 11 2 rfl rfl]; exact s12.2)⟩⟩ f)
  · first | refine And.intro (fun z => absurd z (by decide)) (fun _ => ?_) | refine And.intro (fun _ => ?_) (fun z => absurd z (by decide))
    exact h _ _ sc mg_f2.rf

set_option maxHeartbeats 1000000 in
theorem F_laid {d : Nat} (hd : 4 ≤ d) (a b : Int32) {I : mv_I} {J : mv_J} {Q : mv_Q} (sc : SC I) (h : ∀ (r : Int32), Q (some (.inl r)) I J) : mv_wpM mv_tab mv_sh d 73 [.inr (.inr 0), .inl a, .inl b] I J Q := by
  obtain ⟨d, rfl⟩ : ∃ e, d = e + 1 := ⟨d - 1, by omega⟩
  refine (show ∃ fu9, mv_wp (mv_wpM mv_tab mv_sh d) mv_sh none tbX7_laid flX7 csX7 1 (fun _ _ _ _ _ => False) Q fu9 0 [some (.inr (.inr 0)), some (.inl a), some (.inl b)] [] I J from ?_)
  refine ⟨60, ?_⟩
  obtain ⟨s1, s2, s3, s4, s5, s6, s7, s8, s9, s10, s11, s12⟩ := id sc
  refine c_hasShip (by omega) a (fun p1 => ?_) (fun p1 => ?_)
  · first | refine And.intro (fun z => absurd z (by decide)) (fun _ => ?_) | refine And.intro (fun _ => ?_) (fun z => absurd z (by decide))
    have ha : rg a 0 5 := mg_lt p1 s7.1.2
    have B : vp_in a 6 := vp_in_iff.mpr ⟨ha.1, by have := ha.2; omega⟩
    refine And.intro (fun q1 => ?_) (fun q1 => ?_)
    · refine And.intro B ?_
      refine And.intro (fun q2 => ?_) (fun q2 => ?_)
      · refine And.intro (fun _ => h _) (And.intro (fun _ => ?_) (And.intro (fun _ => ?_) (And.intro (fun _ => ?_) (And.intro (fun _ => ?_) trivial))))
        all_goals exact And.intro B (h _)
      · exact h _
    · exact h _
  · first | refine And.intro (fun z => absurd z (by decide)) (fun _ => ?_) | refine And.intro (fun _ => ?_) (fun z => absurd z (by decide))
    exact h _

set_option maxHeartbeats 1000000 in
theorem F_count {d : Nat} (hd : 4 ≤ d) (a : Int32) {I : mv_I} {J : mv_J} {Q : mv_Q} (sc : SC I) (h : ∀ (r : Int32), Q (some (.inl r)) I J) : mv_wpM mv_tab mv_sh d 74 [.inr (.inr 0), .inl a] I J Q := by
  obtain ⟨d, rfl⟩ : ∃ e, d = e + 1 := ⟨d - 1, by omega⟩
  refine (show ∃ fu9, mv_wp (mv_wpM mv_tab mv_sh d) mv_sh none tbX7_count flX7 csX7 1 (fun _ _ _ _ _ => False) Q fu9 0 [some (.inr (.inr 0)), some (.inl a)] [] I J from ?_)
  refine ⟨60, ?_⟩
  obtain ⟨s1, s2, s3, s4, s5, s6, s7, s8, s9, s10, s11, s12⟩ := id sc
  refine And.intro (fun _ => h _) (And.intro (fun _ => h _) (And.intro (fun _ => h _) (And.intro (fun _ => h _) (And.intro (fun _ => h _) (And.intro (fun _ => h _) (And.intro (fun _ => ?_) (And.intro (fun _ => ?_) (And.intro (fun _ => ?_) trivial))))))))
  · exact s_sumOf28 (by omega) s5 (fun r => h r)
  · exact s_sumOf29 (by omega) s5 (fun r => h r)
  · exact s_sumOf30 (by omega) s5 (fun r => h r)

theorem mg_eq {a : Int32} {s : Nat} (hs : s < 4) (e : a = nI s) : a.toInt = s := by rw [e]; exact nI_toInt (by omega)
theorem mg_rl {l : Int32} (h : rg l (-1) 2) {b : Int32} (hb : 0 ≤ b ∧ b ≤ 2) : rg b (-1) 2 := by
  have := mg_le hb
  have e0 : (0 : Int32).toInt = 0 := by decide
  have e2 : (2 : Int32).toInt = 2 := by decide
  unfold rg at *
  rw [e0, e2] at this
  exact ⟨by omega, by omega⟩
def ok_sheet (a b c : Int32) : Prop := (0 ≤ a ∧ a ≤ 3) ∧ (0 ≤ b ∧ b ≤ 2) ∧ c ≤ 60
def sp_sheet (a b c : Int32) (I : mv_I) (r : Int32) (I' : mv_I) : Prop := (¬ ok_sheet a b c ∧ r = -1 ∧ I' = I) ∨ (ok_sheet a b c ∧ c < 0 ∧ r = -14 ∧ I' = I) ∨ (ok_sheet a b c ∧ ¬ c < 0 ∧ r = c ∧ ∃ s : Nat, s < 4 ∧ a.toInt = s ∧ I' = bg s b c I)
def sp_drop (a : Int32) (I : mv_I) (r : Int32) (I' : mv_I) : Prop := (¬ (0 ≤ a ∧ a ≤ 3) ∧ r = -1 ∧ I' = I) ∨ ∃ s : Nat, s < 4 ∧ a.toInt = s ∧ ((I (8 + s) 1 = -1 ∧ r = -11 ∧ I' = I) ∨ (¬ I (8 + s) 1 = -1 ∧ r = I (8 + s) 2 ∧ I' = va_up I (8 + s) (upd (I (8 + s)) 1 (-1))))
def sp_item (a b i v : Int32) (I : mv_I) (r : Int32) (I' : mv_I) : Prop := (¬ ((0 ≤ a ∧ a ≤ 3) ∧ (0 ≤ b ∧ b ≤ 2)) ∧ r = -1 ∧ I' = I) ∨ ((0 ≤ b ∧ b ≤ 2) ∧ ∃ s : Nat, s < 4 ∧ a.toInt = s ∧ ((¬ v_fault (I (8 + s) 1) (I (8 + s) 2) b i 1 = 0 ∧ r = v_fault (I (8 + s) 1) (I (8 + s) 2) b i 1 ∧ I' = I) ∨ (v_fault (I (8 + s) 1) (I (8 + s) 2) b i 1 = 0 ∧ r = 1 ∧ I' = va_up I (47 + s) (upd (I (47 + s)) i.toNatClampNeg (vput (I (8 + s) 1) v)))))
def has_it (len i n : Int32) : Prop := 0 ≤ i ∧ 0 ≤ n ∧ i ≤ len - n
def sp_copy (a i b j n : Int32) (I : mv_I) (r : Int32) (I' : mv_I) : Prop := (¬ ((0 ≤ a ∧ a ≤ 3) ∧ (0 ≤ b ∧ b ≤ 3)) ∧ r = -1 ∧ I' = I) ∨ ∃ s t : Nat, s < 4 ∧ t < 4 ∧ a.toInt = s ∧ b.toInt = t ∧ (((I (8 + s) 1 = -1 ∨ I (8 + t) 1 = -1) ∧ r = -11 ∧ I' = I) ∨ (¬ (I (8 + s) 1 = -1 ∨ I (8 + t) 1 = -1) ∧ ¬ I (8 + s) 1 = I (8 + t) 1 ∧ r = -12 ∧ I' = I) ∨ (¬ (I (8 + s) 1 = -1 ∨ I (8 + t) 1 = -1) ∧ I (8 + s) 1 = I (8 + t) 1 ∧ ¬ (has_it (I (8 + s) 2) i n ∧ has_it (I (8 + t) 2) j n) ∧ r = -13 ∧ I' = I) ∨ (¬ (I (8 + s) 1 = -1 ∨ I (8 + t) 1 = -1) ∧ I (8 + s) 1 = I (8 + t) 1 ∧ (has_it (I (8 + s) 2) i n ∧ has_it (I (8 + t) 2) j n) ∧ r = n ∧ I' = va_up I (47 + t) (va_cpy (I (47 + s)) (I (47 + t)) i.toNatClampNeg j.toNatClampNeg n.toNatClampNeg)))
def mg_ab (f : Nat → Int32) (i n : Int32) : Prop := ∃ j : Nat, i.toInt ≤ j ∧ j < i.toInt + n.toInt ∧ 9 < f j
def ok_surf (a b c n : Int32) : Prop := (0 ≤ a ∧ a ≤ 59) ∧ (0 ≤ b ∧ b ≤ 3) ∧ (0 ≤ c ∧ c ≤ 2) ∧ (0 ≤ n ∧ n ≤ 60 - a)
def sp_surf (a b c i n : Int32) (I : mv_I) (r : Int32) (I' : mv_I) : Prop := (¬ ok_surf a b c n ∧ r = -1 ∧ I' = I) ∨ (ok_surf a b c n ∧ ∃ s : Nat, s < 4 ∧ b.toInt = s ∧ ((¬ v_fault (I (8 + s) 1) (I (8 + s) 2) c i n = 0 ∧ r = v_fault (I (8 + s) 1) (I (8 + s) 2) c i n ∧ I' = I) ∨ (v_fault (I (8 + s) 1) (I (8 + s) 2) c i n = 0 ∧ mg_ab (I (47 + s)) i n ∧ r = -2 ∧ I' = I) ∨ (v_fault (I (8 + s) 1) (I (8 + s) 2) c i n = 0 ∧ ¬ mg_ab (I (47 + s)) i n ∧ r = n ∧ I' = va_up I 38 (va_cpy (I (47 + s)) (I 38) i.toNatClampNeg a.toNatClampNeg n.toNatClampNeg))))
theorem mg_has {len i n : Int32} (hl : rg len 0 60) (h : has_it len i n) : 0 ≤ i.toInt ∧ 0 ≤ n.toInt ∧ i.toInt + n.toInt ≤ len.toInt := by
  obtain ⟨h1, h2, h3⟩ := h
  obtain ⟨l0, l1⟩ := hl
  rw [mi_le] at h1 h2
  have := mi_l
  have e : (len - n).toInt = len.toInt - n.toInt := by have := mi_max n; exact mi_sub (by omega) (by omega)
  rw [mi_le, e] at h3
  exact ⟨by omega, by omega, by omega⟩
theorem v_fault0 {l len b i n : Int32} (h : v_fault l len b i n = 0) : has_it len i n ∧ ¬ l = -1 ∧ b = l := by
  unfold v_fault at h
  by_cases h1 : l = -1
  · rw [if_pos h1] at h; exact absurd h (by decide)
  · rw [if_neg h1] at h
    by_cases h2 : b = l
    · rw [if_pos h2] at h
      by_cases h3 : 0 ≤ i ∧ 0 ≤ n ∧ i ≤ len - n
      · exact ⟨h3, h1, h2⟩
      · rw [if_neg h3] at h; exact absurd h (by decide)
    · rw [if_neg h2] at h; exact absurd h (by decide)
set_option maxHeartbeats 1000000 in
theorem F_sheet {d : Nat} (hd : 5 ≤ d) (a b c : Int32) {I : mv_I} {J : mv_J} {Q : mv_Q} (sc : SC I) (h : ∀ (r : Int32) (I' : mv_I), SC I' → mg_f2 [47, 48, 49, 50] [(8, 1), (8, 2), (9, 1), (9, 2), (10, 1), (10, 2), (11, 1), (11, 2)] I I' → sp_sheet a b c I r I' → Q (some (.inl r)) I' J) : mv_wpM mv_tab mv_sh d 75 [.inr (.inr 0), .inl a, .inl b, .inl c] I J Q := by
  obtain ⟨d, rfl⟩ : ∃ e, d = e + 1 := ⟨d - 1, by omega⟩
  refine (show ∃ fu9, mv_wp (mv_wpM mv_tab mv_sh d) mv_sh none tbX7_sheet flX7 csX7 1 (fun _ _ _ _ _ => False) Q fu9 0 [some (.inr (.inr 0)), some (.inl a), some (.inl b), some (.inl c)] [] I J from ?_)
  refine ⟨60, ?_⟩
  obtain ⟨s1, s2, s3, s4, s5, s6, s7, s8, s9, s10, s11, s12⟩ := id sc
  refine c_isSheet (by omega) a (fun p1 => ?_) (fun p1 => ?_)
  · first | refine And.intro (fun z => absurd z (by decide)) (fun _ => ?_) | refine And.intro (fun _ => ?_) (fun z => absurd z (by decide))
    have B : vp_in a 4 := vp_in_iff.mpr ⟨(mg_le p1).1, by have := (mg_le p1).2; have : (3 : Int32).toInt = 3 := (by decide); omega⟩
    refine c_isLane (by omega) b (fun p2 => ?_) (fun p2 => ?_)
    · first | refine And.intro (fun z => absurd z (by decide)) (fun _ => ?_) | refine And.intro (fun _ => ?_) (fun z => absurd z (by decide))
      refine And.intro (fun q1 => ?_) (fun q1 => ?_)
      · refine And.intro (fun q2 => ?_) (fun q2 => ?_)
        · have q2 : ¬ c < 0 := fun z => by simp only [mi_le, mi_lt] at *; omega
          have hc : rg c 0 60 := by
            rw [mi_le] at q1
            rw [mi_lt] at q2
            have := mi_l
            exact ⟨by omega, by omega⟩
          refine And.intro B (And.intro (fun e => ?_) (And.intro (fun e => ?_) (And.intro (fun e => ?_) (fun e => ?_))))
          · have f0 : mg_f2 [47] [(8, 1), (8, 2)] I (bg 0 b c I) := mg_f2.uf (mg_f2.uf (mg_f2.up mg_f2.rf rfl) rfl) rfl
            have f : mg_f2 [47, 48, 49, 50] [(8, 1), (8, 2), (9, 1), (9, 2), (10, 1), (10, 2), (11, 1), (11, 2)] I (bg 0 b c I) := f0.mono rfl rfl
            refine s_begin8 (by omega) b c ?_
            exact h _ _ ⟨(show rg (_ : Int32) _ _ by rw [f0 0 7 rfl rfl]; exact s1), (show rg (_ : Int32) _ _ by rw [f0 1 2 rfl rfl]; exact s2), (show rg (_ : Int32) _ _ by rw [f0 1 9 rfl rfl]; exact s3), (show rg (_ : Int32) _ _ by rw [f0 2 2 rfl rfl]; exact s4), (show rg (_ : Int32) _ _ by rw [f0 3 6 rfl rfl]; exact s5), (fun j => (by rw [f0 25 j rfl rfl]; exact s6 j)), (s7.kp (f0 4 7 rfl rfl) (f2_fn (c := 31) f0 rfl (fun _ => rfl)) (f2_fn (c := 32) f0 rfl (fun _ => rfl)) (f2_fn (c := 33) f0 rfl (fun _ => rfl))), (s8.kp (f0 4 7 rfl rfl) (f2_fn (c := 45) f0 rfl (fun _ => rfl)) (f2_fn (c := 46) f0 rfl (fun _ => rfl))), ⟨(show rg b (-1) 2 from mg_rl s9.1 p2), (show rg c 0 60 from hc)⟩, ⟨(show rg (_ : Int32) _ _ by rw [f0 9 1 rfl rfl]; exact s10.1), (show rg (_ : Int32) _ _ by rw [f0 9 2 rfl rfl]; exact s10.2)⟩, ⟨(show rg (_ : Int32) _ _ by rw [f0 10 1 rfl rfl]; exact s11.1), (show rg (_ : Int32) _ _ by rw [f0 10 2 rfl rfl]; exact s11.2)⟩, ⟨(show rg (_ : Int32) _ _ by rw [f0 11 1 rfl rfl]; exact s12.1), (show rg (_ : Int32) _ _ by rw [f0 11 2 rfl rfl]; exact s12.2)⟩⟩ f (Or.inr (Or.inr ⟨⟨p1, p2, q1⟩, q2, rfl, 0, by decide, mg_eq (by decide) e, rfl⟩))
          · have f0 : mg_f2 [48] [(9, 1), (9, 2)] I (bg 1 b c I) := mg_f2.uf (mg_f2.uf (mg_f2.up mg_f2.rf rfl) rfl) rfl
            have f : mg_f2 [47, 48, 49, 50] [(8, 1), (8, 2), (9, 1), (9, 2), (10, 1), (10, 2), (11, 1), (11, 2)] I (bg 1 b c I) := f0.mono rfl rfl
            refine s_begin9 (by omega) b c ?_
            exact h _ _ ⟨(show rg (_ : Int32) _ _ by rw [f0 0 7 rfl rfl]; exact s1), (show rg (_ : Int32) _ _ by rw [f0 1 2 rfl rfl]; exact s2), (show rg (_ : Int32) _ _ by rw [f0 1 9 rfl rfl]; exact s3), (show rg (_ : Int32) _ _ by rw [f0 2 2 rfl rfl]; exact s4), (show rg (_ : Int32) _ _ by rw [f0 3 6 rfl rfl]; exact s5), (fun j => (by rw [f0 25 j rfl rfl]; exact s6 j)), (s7.kp (f0 4 7 rfl rfl) (f2_fn (c := 31) f0 rfl (fun _ => rfl)) (f2_fn (c := 32) f0 rfl (fun _ => rfl)) (f2_fn (c := 33) f0 rfl (fun _ => rfl))), (s8.kp (f0 4 7 rfl rfl) (f2_fn (c := 45) f0 rfl (fun _ => rfl)) (f2_fn (c := 46) f0 rfl (fun _ => rfl))), ⟨(show rg (_ : Int32) _ _ by rw [f0 8 1 rfl rfl]; exact s9.1), (show rg (_ : Int32) _ _ by rw [f0 8 2 rfl rfl]; exact s9.2)⟩, ⟨(show rg b (-1) 2 from mg_rl s9.1 p2), (show rg c 0 60 from hc)⟩, ⟨(show rg (_ : Int32) _ _ by rw [f0 10 1 rfl rfl]; exact s11.1), (show rg (_ : Int32) _ _ by rw [f0 10 2 rfl rfl]; exact s11.2)⟩, ⟨(show rg (_ : Int32) _ _ by rw [f0 11 1 rfl rfl]; exact s12.1), (show rg (_ : Int32) _ _ by rw [f0 11 2 rfl rfl]; exact s12.2)⟩⟩ f (Or.inr (Or.inr ⟨⟨p1, p2, q1⟩, q2, rfl, 1, by decide, mg_eq (by decide) e, rfl⟩))
          · have f0 : mg_f2 [49] [(10, 1), (10, 2)] I (bg 2 b c I) := mg_f2.uf (mg_f2.uf (mg_f2.up mg_f2.rf rfl) rfl) rfl
            have f : mg_f2 [47, 48, 49, 50] [(8, 1), (8, 2), (9, 1), (9, 2), (10, 1), (10, 2), (11, 1), (11, 2)] I (bg 2 b c I) := f0.mono rfl rfl
            refine s_begin10 (by omega) b c ?_
            exact h _ _ ⟨(show rg (_ : Int32) _ _ by rw [f0 0 7 rfl rfl]; exact s1), (show rg (_ : Int32) _ _ by rw [f0 1 2 rfl rfl]; exact s2), (show rg (_ : Int32) _ _ by rw [f0 1 9 rfl rfl]; exact s3), (show rg (_ : Int32) _ _ by rw [f0 2 2 rfl rfl]; exact s4), (show rg (_ : Int32) _ _ by rw [f0 3 6 rfl rfl]; exact s5), (fun j => (by rw [f0 25 j rfl rfl]; exact s6 j)), (s7.kp (f0 4 7 rfl rfl) (f2_fn (c := 31) f0 rfl (fun _ => rfl)) (f2_fn (c := 32) f0 rfl (fun _ => rfl)) (f2_fn (c := 33) f0 rfl (fun _ => rfl))), (s8.kp (f0 4 7 rfl rfl) (f2_fn (c := 45) f0 rfl (fun _ => rfl)) (f2_fn (c := 46) f0 rfl (fun _ => rfl))), ⟨(show rg (_ : Int32) _ _ by rw [f0 8 1 rfl rfl]; exact s9.1), (show rg (_ : Int32) _ _ by rw [f0 8 2 rfl rfl]; exact s9.2)⟩, ⟨(show rg (_ : Int32) _ _ by rw [f0 9 1 rfl rfl]; exact s10.1), (show rg (_ : Int32) _ _ by rw [f0 9 2 rfl rfl]; exact s10.2)⟩, ⟨(show rg b (-1) 2 from mg_rl s9.1 p2), (show rg c 0 60 from hc)⟩, ⟨(show rg (_ : Int32) _ _ by rw [f0 11 1 rfl rfl]; exact s12.1), (show rg (_ : Int32) _ _ by rw [f0 11 2 rfl rfl]; exact s12.2)⟩⟩ f (Or.inr (Or.inr ⟨⟨p1, p2, q1⟩, q2, rfl, 2, by decide, mg_eq (by decide) e, rfl⟩))
          · have f0 : mg_f2 [50] [(11, 1), (11, 2)] I (bg 3 b c I) := mg_f2.uf (mg_f2.uf (mg_f2.up mg_f2.rf rfl) rfl) rfl
            have f : mg_f2 [47, 48, 49, 50] [(8, 1), (8, 2), (9, 1), (9, 2), (10, 1), (10, 2), (11, 1), (11, 2)] I (bg 3 b c I) := f0.mono rfl rfl
            refine s_begin11 (by omega) b c ?_
            exact h _ _ ⟨(show rg (_ : Int32) _ _ by rw [f0 0 7 rfl rfl]; exact s1), (show rg (_ : Int32) _ _ by rw [f0 1 2 rfl rfl]; exact s2), (show rg (_ : Int32) _ _ by rw [f0 1 9 rfl rfl]; exact s3), (show rg (_ : Int32) _ _ by rw [f0 2 2 rfl rfl]; exact s4), (show rg (_ : Int32) _ _ by rw [f0 3 6 rfl rfl]; exact s5), (fun j => (by rw [f0 25 j rfl rfl]; exact s6 j)), (s7.kp (f0 4 7 rfl rfl) (f2_fn (c := 31) f0 rfl (fun _ => rfl)) (f2_fn (c := 32) f0 rfl (fun _ => rfl)) (f2_fn (c := 33) f0 rfl (fun _ => rfl))), (s8.kp (f0 4 7 rfl rfl) (f2_fn (c := 45) f0 rfl (fun _ => rfl)) (f2_fn (c := 46) f0 rfl (fun _ => rfl))), ⟨(show rg (_ : Int32) _ _ by rw [f0 8 1 rfl rfl]; exact s9.1), (show rg (_ : Int32) _ _ by rw [f0 8 2 rfl rfl]; exact s9.2)⟩, ⟨(show rg (_ : Int32) _ _ by rw [f0 9 1 rfl rfl]; exact s10.1), (show rg (_ : Int32) _ _ by rw [f0 9 2 rfl rfl]; exact s10.2)⟩, ⟨(show rg (_ : Int32) _ _ by rw [f0 10 1 rfl rfl]; exact s11.1), (show rg (_ : Int32) _ _ by rw [f0 10 2 rfl rfl]; exact s11.2)⟩, ⟨(show rg b (-1) 2 from mg_rl s9.1 p2), (show rg c 0 60 from hc)⟩⟩ f (Or.inr (Or.inr ⟨⟨p1, p2, q1⟩, q2, rfl, 3, by decide, mg_eq (by decide) e, rfl⟩))
        · have q2 : c < 0 := by simp only [mi_le, mi_lt] at *; omega
          exact h _ _ sc mg_f2.rf (Or.inr (Or.inl ⟨⟨p1, p2, q1⟩, q2, rfl, rfl⟩))
      · exact h _ _ sc mg_f2.rf (Or.inl ⟨fun z => q1 z.2.2, rfl, rfl⟩)
    · first | refine And.intro (fun z => absurd z (by decide)) (fun _ => ?_) | refine And.intro (fun _ => ?_) (fun z => absurd z (by decide))
      exact h _ _ sc mg_f2.rf (Or.inl ⟨fun z => p2 z.2.1, rfl, rfl⟩)
  · first | refine And.intro (fun z => absurd z (by decide)) (fun _ => ?_) | refine And.intro (fun _ => ?_) (fun z => absurd z (by decide))
    exact h _ _ sc mg_f2.rf (Or.inl ⟨fun z => p1 z.1, rfl, rfl⟩)

set_option maxHeartbeats 1000000 in
theorem F_drop {d : Nat} (hd : 4 ≤ d) (a : Int32) {I : mv_I} {J : mv_J} {Q : mv_Q} (sc : SC I) (h : ∀ (r : Int32) (I' : mv_I), SC I' → mg_f2 [] [(8, 1), (9, 1), (10, 1), (11, 1)] I I' → sp_drop a I r I' → Q (some (.inl r)) I' J) : mv_wpM mv_tab mv_sh d 76 [.inr (.inr 0), .inl a] I J Q := by
  obtain ⟨d, rfl⟩ : ∃ e, d = e + 1 := ⟨d - 1, by omega⟩
  refine (show ∃ fu9, mv_wp (mv_wpM mv_tab mv_sh d) mv_sh none tbX7_drop flX7 csX7 1 (fun _ _ _ _ _ => False) Q fu9 0 [some (.inr (.inr 0)), some (.inl a), none] [] I J from ?_)
  refine ⟨60, ?_⟩
  obtain ⟨s1, s2, s3, s4, s5, s6, s7, s8, s9, s10, s11, s12⟩ := id sc
  refine c_isSheet (by omega) a (fun p1 => ?_) (fun p1 => ?_)
  · first | refine And.intro (fun z => absurd z (by decide)) (fun _ => ?_) | refine And.intro (fun _ => ?_) (fun z => absurd z (by decide))
    have B : vp_in a 4 := vp_in_iff.mpr ⟨(mg_le p1).1, by have := (mg_le p1).2; have : (3 : Int32).toInt = 3 := (by decide); omega⟩
    refine And.intro B (And.intro (fun e => ?_) (And.intro (fun e => ?_) (And.intro (fun e => ?_) (fun e => ?_))))
    · refine s_isNothing8 (by omega) (fun p => ?_) (fun p => ?_)
      · first | refine And.intro (fun z => absurd z (by decide)) (fun _ => ?_) | refine And.intro (fun _ => ?_) (fun z => absurd z (by decide))
        exact h _ _ sc mg_f2.rf (Or.inr ⟨0, by decide, mg_eq (by decide) e, Or.inl ⟨p, rfl, rfl⟩⟩)
      · first | refine And.intro (fun z => absurd z (by decide)) (fun _ => ?_) | refine And.intro (fun _ => ?_) (fun z => absurd z (by decide))
        have f0 : mg_f2 [] [(8, 1)] I (va_up I 8 (upd (I 8) 1 (-1))) := mg_f2.uf mg_f2.rf rfl
        have f : mg_f2 [] [(8, 1), (9, 1), (10, 1), (11, 1)] I (va_up I 8 (upd (I 8) 1 (-1))) := f0.mono rfl rfl
        exact h _ _ ⟨(show rg (_ : Int32) _ _ by rw [f0 0 7 rfl rfl]; exact s1), (show rg (_ : Int32) _ _ by rw [f0 1 2 rfl rfl]; exact s2), (show rg (_ : Int32) _ _ by rw [f0 1 9 rfl rfl]; exact s3), (show rg (_ : Int32) _ _ by rw [f0 2 2 rfl rfl]; exact s4), (show rg (_ : Int32) _ _ by rw [f0 3 6 rfl rfl]; exact s5), (fun j => (by rw [f0 25 j rfl rfl]; exact s6 j)), (s7.kp (f0 4 7 rfl rfl) (f2_fn (c := 31) f0 rfl (fun _ => rfl)) (f2_fn (c := 32) f0 rfl (fun _ => rfl)) (f2_fn (c := 33) f0 rfl (fun _ => rfl))), (s8.kp (f0 4 7 rfl rfl) (f2_fn (c := 45) f0 rfl (fun _ => rfl)) (f2_fn (c := 46) f0 rfl (fun _ => rfl))), ⟨(show rg (-1) (-1) 2 from ⟨by decide, by decide⟩), (show rg (I 8 2) 0 60 from s9.2)⟩, ⟨(show rg (_ : Int32) _ _ by rw [f0 9 1 rfl rfl]; exact s10.1), (show rg (_ : Int32) _ _ by rw [f0 9 2 rfl rfl]; exact s10.2)⟩, ⟨(show rg (_ : Int32) _ _ by rw [f0 10 1 rfl rfl]; exact s11.1), (show rg (_ : Int32) _ _ by rw [f0 10 2 rfl rfl]; exact s11.2)⟩, ⟨(show rg (_ : Int32) _ _ by rw [f0 11 1 rfl rfl]; exact s12.1), (show rg (_ : Int32) _ _ by rw [f0 11 2 rfl rfl]; exact s12.2)⟩⟩ f (Or.inr ⟨0, by decide, mg_eq (by decide) e, Or.inr ⟨p, rfl, rfl⟩⟩)
    · refine s_isNothing9 (by omega) (fun p => ?_) (fun p => ?_)
      · first | refine And.intro (fun z => absurd z (by decide)) (fun _ => ?_) | refine And.intro (fun _ => ?_) (fun z => absurd z (by decide))
        exact h _ _ sc mg_f2.rf (Or.inr ⟨1, by decide, mg_eq (by decide) e, Or.inl ⟨p, rfl, rfl⟩⟩)
      · first | refine And.intro (fun z => absurd z (by decide)) (fun _ => ?_) | refine And.intro (fun _ => ?_) (fun z => absurd z (by decide))
        have f0 : mg_f2 [] [(9, 1)] I (va_up I 9 (upd (I 9) 1 (-1))) := mg_f2.uf mg_f2.rf rfl
        have f : mg_f2 [] [(8, 1), (9, 1), (10, 1), (11, 1)] I (va_up I 9 (upd (I 9) 1 (-1))) := f0.mono rfl rfl
        exact h _ _ ⟨(show rg (_ : Int32) _ _ by rw [f0 0 7 rfl rfl]; exact s1), (show rg (_ : Int32) _ _ by rw [f0 1 2 rfl rfl]; exact s2), (show rg (_ : Int32) _ _ by rw [f0 1 9 rfl rfl]; exact s3), (show rg (_ : Int32) _ _ by rw [f0 2 2 rfl rfl]; exact s4), (show rg (_ : Int32) _ _ by rw [f0 3 6 rfl rfl]; exact s5), (fun j => (by rw [f0 25 j rfl rfl]; exact s6 j)), (s7.kp (f0 4 7 rfl rfl) (f2_fn (c := 31) f0 rfl (fun _ => rfl)) (f2_fn (c := 32) f0 rfl (fun _ => rfl)) (f2_fn (c := 33) f0 rfl (fun _ => rfl))), (s8.kp (f0 4 7 rfl rfl) (f2_fn (c := 45) f0 rfl (fun _ => rfl)) (f2_fn (c := 46) f0 rfl (fun _ => rfl))), ⟨(show rg (_ : Int32) _ _ by rw [f0 8 1 rfl rfl]; exact s9.1), (show rg (_ : Int32) _ _ by rw [f0 8 2 rfl rfl]; exact s9.2)⟩, ⟨(show rg (-1) (-1) 2 from ⟨by decide, by decide⟩), (show rg (I 9 2) 0 60 from s10.2)⟩, ⟨(show rg (_ : Int32) _ _ by rw [f0 10 1 rfl rfl]; exact s11.1), (show rg (_ : Int32) _ _ by rw [f0 10 2 rfl rfl]; exact s11.2)⟩, ⟨(show rg (_ : Int32) _ _ by rw [f0 11 1 rfl rfl]; exact s12.1), (show rg (_ : Int32) _ _ by rw [f0 11 2 rfl rfl]; exact s12.2)⟩⟩ f (Or.inr ⟨1, by decide, mg_eq (by decide) e, Or.inr ⟨p, rfl, rfl⟩⟩)
    · refine s_isNothing10 (by omega) (fun p => ?_) (fun p => ?_)
      · first | refine And.intro (fun z => absurd z (by decide)) (fun _ => ?_) | refine And.intro (fun _ => ?_) (fun z => absurd z (by decide))
        exact h _ _ sc mg_f2.rf (Or.inr ⟨2, by decide, mg_eq (by decide) e, Or.inl ⟨p, rfl, rfl⟩⟩)
      · first | refine And.intro (fun z => absurd z (by decide)) (fun _ => ?_) | refine And.intro (fun _ => ?_) (fun z => absurd z (by decide))
        have f0 : mg_f2 [] [(10, 1)] I (va_up I 10 (upd (I 10) 1 (-1))) := mg_f2.uf mg_f2.rf rfl
        have f : mg_f2 [] [(8, 1), (9, 1), (10, 1), (11, 1)] I (va_up I 10 (upd (I 10) 1 (-1))) := f0.mono rfl rfl
        exact h _ _ ⟨(show rg (_ : Int32) _ _ by rw [f0 0 7 rfl rfl]; exact s1), (show rg (_ : Int32) _ _ by rw [f0 1 2 rfl rfl]; exact s2), (show rg (_ : Int32) _ _ by rw [f0 1 9 rfl rfl]; exact s3), (show rg (_ : Int32) _ _ by rw [f0 2 2 rfl rfl]; exact s4), (show rg (_ : Int32) _ _ by rw [f0 3 6 rfl rfl]; exact s5), (fun j => (by rw [f0 25 j rfl rfl]; exact s6 j)), (s7.kp (f0 4 7 rfl rfl) (f2_fn (c := 31) f0 rfl (fun _ => rfl)) (f2_fn (c := 32) f0 rfl (fun _ => rfl)) (f2_fn (c := 33) f0 rfl (fun _ => rfl))), (s8.kp (f0 4 7 rfl rfl) (f2_fn (c := 45) f0 rfl (fun _ => rfl)) (f2_fn (c := 46) f0 rfl (fun _ => rfl))), ⟨(show rg (_ : Int32) _ _ by rw [f0 8 1 rfl rfl]; exact s9.1), (show rg (_ : Int32) _ _ by rw [f0 8 2 rfl rfl]; exact s9.2)⟩, ⟨(show rg (_ : Int32) _ _ by rw [f0 9 1 rfl rfl]; exact s10.1), (show rg (_ : Int32) _ _ by rw [f0 9 2 rfl rfl]; exact s10.2)⟩, ⟨(show rg (-1) (-1) 2 from ⟨by decide, by decide⟩), (show rg (I 10 2) 0 60 from s11.2)⟩, ⟨(show rg (_ : Int32) _ _ by rw [f0 11 1 rfl rfl]; exact s12.1), (show rg (_ : Int32) _ _ by rw [f0 11 2 rfl rfl]; exact s12.2)⟩⟩ f (Or.inr ⟨2, by decide, mg_eq (by decide) e, Or.inr ⟨p, rfl, rfl⟩⟩)
    · refine s_isNothing11 (by omega) (fun p => ?_) (fun p => ?_)
      · first | refine And.intro (fun z => absurd z (by decide)) (fun _ => ?_) | refine And.intro (fun _ => ?_) (fun z => absurd z (by decide))
        exact h _ _ sc mg_f2.rf (Or.inr ⟨3, by decide, mg_eq (by decide) e, Or.inl ⟨p, rfl, rfl⟩⟩)
      · first | refine And.intro (fun z => absurd z (by decide)) (fun _ => ?_) | refine And.intro (fun _ => ?_) (fun z => absurd z (by decide))
        have f0 : mg_f2 [] [(11, 1)] I (va_up I 11 (upd (I 11) 1 (-1))) := mg_f2.uf mg_f2.rf rfl
        have f : mg_f2 [] [(8, 1), (9, 1), (10, 1), (11, 1)] I (va_up I 11 (upd (I 11) 1 (-1))) := f0.mono rfl rfl
        exact h _ _ ⟨(show rg (_ : Int32) _ _ by rw [f0 0 7 rfl rfl]; exact s1), (show rg (_ : Int32) _ _ by rw [f0 1 2 rfl rfl]; exact s2), (show rg (_ : Int32) _ _ by rw [f0 1 9 rfl rfl]; exact s3), (show rg (_ : Int32) _ _ by rw [f0 2 2 rfl rfl]; exact s4), (show rg (_ : Int32) _ _ by rw [f0 3 6 rfl rfl]; exact s5), (fun j => (by rw [f0 25 j rfl rfl]; exact s6 j)), (s7.kp (f0 4 7 rfl rfl) (f2_fn (c := 31) f0 rfl (fun _ => rfl)) (f2_fn (c := 32) f0 rfl (fun _ => rfl)) (f2_fn (c := 33) f0 rfl (fun _ => rfl))), (s8.kp (f0 4 7 rfl rfl) (f2_fn (c := 45) f0 rfl (fun _ => rfl)) (f2_fn (c := 46) f0 rfl (fun _ => rfl))), ⟨(show rg (_ : Int32) _ _ by rw [f0 8 1 rfl rfl]; exact s9.1), (show rg (_ : Int32) _ _ by rw [f0 8 2 rfl rfl]; exact s9.2)⟩, ⟨(show rg (_ : Int32) _ _ by rw [f0 9 1 rfl rfl]; exact s10.1), (show rg (_ : Int32) _ _ by rw [f0 9 2 rfl rfl]; exact s10.2)⟩, ⟨(show rg (_ : Int32) _ _ by rw [f0 10 1 rfl rfl]; exact s11.1), (show rg (_ : Int32) _ _ by rw [f0 10 2 rfl rfl]; exact s11.2)⟩, ⟨(show rg (-1) (-1) 2 from ⟨by decide, by decide⟩), (show rg (I 11 2) 0 60 from s12.2)⟩⟩ f (Or.inr ⟨3, by decide, mg_eq (by decide) e, Or.inr ⟨p, rfl, rfl⟩⟩)
  · first | refine And.intro (fun z => absurd z (by decide)) (fun _ => ?_) | refine And.intro (fun _ => ?_) (fun z => absurd z (by decide))
    exact h _ _ sc mg_f2.rf (Or.inl ⟨p1, rfl, rfl⟩)

set_option maxHeartbeats 1000000 in
theorem F_item {d : Nat} (hd : 5 ≤ d) (a b i v : Int32) {I : mv_I} {J : mv_J} {Q : mv_Q} (sc : SC I) (h : ∀ (r : Int32) (I' : mv_I), SC I' → mg_f2 [47, 48, 49, 50] [] I I' → sp_item a b i v I r I' → Q (some (.inl r)) I' J) : mv_wpM mv_tab mv_sh d 77 [.inr (.inr 0), .inl a, .inl b, .inl i, .inl v] I J Q := by
  obtain ⟨d, rfl⟩ : ∃ e, d = e + 1 := ⟨d - 1, by omega⟩
  refine (show ∃ fu9, mv_wp (mv_wpM mv_tab mv_sh d) mv_sh none tbX7_item flX7 csX7 1 (fun _ _ _ _ _ => False) Q fu9 0 [some (.inr (.inr 0)), some (.inl a), some (.inl b), some (.inl i), some (.inl v), none] [] I J from ?_)
  refine ⟨80, ?_⟩
  obtain ⟨s1, s2, s3, s4, s5, s6, s7, s8, s9, s10, s11, s12⟩ := id sc
  refine c_isSheet (by omega) a (fun p1 => ?_) (fun p1 => ?_)
  · first | refine And.intro (fun z => absurd z (by decide)) (fun _ => ?_) | refine And.intro (fun _ => ?_) (fun z => absurd z (by decide))
    have B : vp_in a 4 := vp_in_iff.mpr ⟨(mg_le p1).1, by have := (mg_le p1).2; have : (3 : Int32).toInt = 3 := (by decide); omega⟩
    refine c_isLane (by omega) b (fun p2 => ?_) (fun p2 => ?_)
    · first | refine And.intro (fun z => absurd z (by decide)) (fun _ => ?_) | refine And.intro (fun _ => ?_) (fun z => absurd z (by decide))
      refine And.intro B (And.intro (fun e => ?_) (And.intro (fun e => ?_) (And.intro (fun e => ?_) (fun e => ?_))))
      · refine s_faultAs8 (by omega) b i 1 ?_
        refine And.intro (fun q => ?_) (fun q => ?_)
        · have z := mg_has s9.2 (v_fault0 q).1
          have hi : rg i 0 59 := ⟨z.1, by have := s9.2.2; have := z.2.2; have := mi_l; omega⟩
          refine And.intro B (And.intro (fun e2 => ?_) (And.intro (fun e2 => ?_) (And.intro (fun e2 => ?_) (fun e2 => ?_))))
          · refine s_put8 (by omega) i v hi ?_
            have f : mg_f2 [47, 48, 49, 50] [] I (va_up I 47 (upd (I 47) i.toNatClampNeg (vput (I 8 1) v))) := mg_f2.up mg_f2.rf rfl
            exact h _ _ ⟨(show rg (_ : Int32) _ _ by rw [f 0 7 rfl rfl]; exact s1), (show rg (_ : Int32) _ _ by rw [f 1 2 rfl rfl]; exact s2), (show rg (_ : Int32) _ _ by rw [f 1 9 rfl rfl]; exact s3), (show rg (_ : Int32) _ _ by rw [f 2 2 rfl rfl]; exact s4), (show rg (_ : Int32) _ _ by rw [f 3 6 rfl rfl]; exact s5), (fun j => (by rw [f 25 j rfl rfl]; exact s6 j)), (s7.kp (f 4 7 rfl rfl) (f2_fn (c := 31) f rfl (fun _ => rfl)) (f2_fn (c := 32) f rfl (fun _ => rfl)) (f2_fn (c := 33) f rfl (fun _ => rfl))), (s8.kp (f 4 7 rfl rfl) (f2_fn (c := 45) f rfl (fun _ => rfl)) (f2_fn (c := 46) f rfl (fun _ => rfl))), ⟨(show rg (_ : Int32) _ _ by rw [f 8 1 rfl rfl]; exact s9.1), (show rg (_ : Int32) _ _ by rw [f 8 2 rfl rfl]; exact s9.2)⟩, ⟨(show rg (_ : Int32) _ _ by rw [f 9 1 rfl rfl]; exact s10.1), (show rg (_ : Int32) _ _ by rw [f 9 2 rfl rfl]; exact s10.2)⟩, ⟨(show rg (_ : Int32) _ _ by rw [f 10 1 rfl rfl]; exact s11.1), (show rg (_ : Int32) _ _ by rw [f 10 2 rfl rfl]; exact s11.2)⟩, ⟨(show rg (_ : Int32) _ _ by rw [f 11 1 rfl rfl]; exact s12.1), (show rg (_ : Int32) _ _ by rw [f 11 2 rfl rfl]; exact s12.2)⟩⟩ f (Or.inr ⟨p2, 0, by decide, mg_eq (by decide) e, Or.inr ⟨q, rfl, rfl⟩⟩)
          · exact absurd (e.symm.trans e2) (by decide)
          · exact absurd (e.symm.trans e2) (by decide)
          · exact absurd (e.symm.trans e2) (by decide)
        · exact h _ _ sc mg_f2.rf (Or.inr ⟨p2, 0, by decide, mg_eq (by decide) e, Or.inl ⟨q, rfl, rfl⟩⟩)
      · refine s_faultAs9 (by omega) b i 1 ?_
        refine And.intro (fun q => ?_) (fun q => ?_)
        · have z := mg_has s10.2 (v_fault0 q).1
          have hi : rg i 0 59 := ⟨z.1, by have := s10.2.2; have := z.2.2; have := mi_l; omega⟩
          refine And.intro B (And.intro (fun e2 => ?_) (And.intro (fun e2 => ?_) (And.intro (fun e2 => ?_) (fun e2 => ?_))))
          · exact absurd (e.symm.trans e2) (by decide)
          · refine s_put9 (by omega) i v hi ?_
            have f : mg_f2 [47, 48, 49, 50] [] I (va_up I 48 (upd (I 48) i.toNatClampNeg (vput (I 9 1) v))) := mg_f2.up mg_f2.rf rfl
            exact h _ _ ⟨(show rg (_ : Int32) _ _ by rw [f 0 7 rfl rfl]; exact s1), (show rg (_ : Int32) _ _ by rw [f 1 2 rfl rfl]; exact s2), (show rg (_ : Int32) _ _ by rw [f 1 9 rfl rfl]; exact s3), (show rg (_ : Int32) _ _ by rw [f 2 2 rfl rfl]; exact s4), (show rg (_ : Int32) _ _ by rw [f 3 6 rfl rfl]; exact s5), (fun j => (by rw [f 25 j rfl rfl]; exact s6 j)), (s7.kp (f 4 7 rfl rfl) (f2_fn (c := 31) f rfl (fun _ => rfl)) (f2_fn (c := 32) f rfl (fun _ => rfl)) (f2_fn (c := 33) f rfl (fun _ => rfl))), (s8.kp (f 4 7 rfl rfl) (f2_fn (c := 45) f rfl (fun _ => rfl)) (f2_fn (c := 46) f rfl (fun _ => rfl))), ⟨(show rg (_ : Int32) _ _ by rw [f 8 1 rfl rfl]; exact s9.1), (show rg (_ : Int32) _ _ by rw [f 8 2 rfl rfl]; exact s9.2)⟩, ⟨(show rg (_ : Int32) _ _ by rw [f 9 1 rfl rfl]; exact s10.1), (show rg (_ : Int32) _ _ by rw [f 9 2 rfl rfl]; exact s10.2)⟩, ⟨(show rg (_ : Int32) _ _ by rw [f 10 1 rfl rfl]; exact s11.1), (show rg (_ : Int32) _ _ by rw [f 10 2 rfl rfl]; exact s11.2)⟩, ⟨(show rg (_ : Int32) _ _ by rw [f 11 1 rfl rfl]; exact s12.1), (show rg (_ : Int32) _ _ by rw [f 11 2 rfl rfl]; exact s12.2)⟩⟩ f (Or.inr ⟨p2, 1, by decide, mg_eq (by decide) e, Or.inr ⟨q, rfl, rfl⟩⟩)
          · exact absurd (e.symm.trans e2) (by decide)
          · exact absurd (e.symm.trans e2) (by decide)
        · exact h _ _ sc mg_f2.rf (Or.inr ⟨p2, 1, by decide, mg_eq (by decide) e, Or.inl ⟨q, rfl, rfl⟩⟩)
      · refine s_faultAs10 (by omega) b i 1 ?_
        refine And.intro (fun q => ?_) (fun q => ?_)
        · have z := mg_has s11.2 (v_fault0 q).1
          have hi : rg i 0 59 := ⟨z.1, by have := s11.2.2; have := z.2.2; have := mi_l; omega⟩
          refine And.intro B (And.intro (fun e2 => ?_) (And.intro (fun e2 => ?_) (And.intro (fun e2 => ?_) (fun e2 => ?_))))
          · exact absurd (e.symm.trans e2) (by decide)
          · exact absurd (e.symm.trans e2) (by decide)
          · refine s_put10 (by omega) i v hi ?_
            have f : mg_f2 [47, 48, 49, 50] [] I (va_up I 49 (upd (I 49) i.toNatClampNeg (vput (I 10 1) v))) := mg_f2.up mg_f2.rf rfl
            exact h _ _ ⟨(show rg (_ : Int32) _ _ by rw [f 0 7 rfl rfl]; exact s1), (show rg (_ : Int32) _ _ by rw [f 1 2 rfl rfl]; exact s2), (show rg (_ : Int32) _ _ by rw [f 1 9 rfl rfl]; exact s3), (show rg (_ : Int32) _ _ by rw [f 2 2 rfl rfl]; exact s4), (show rg (_ : Int32) _ _ by rw [f 3 6 rfl rfl]; exact s5), (fun j => (by rw [f 25 j rfl rfl]; exact s6 j)), (s7.kp (f 4 7 rfl rfl) (f2_fn (c := 31) f rfl (fun _ => rfl)) (f2_fn (c := 32) f rfl (fun _ => rfl)) (f2_fn (c := 33) f rfl (fun _ => rfl))), (s8.kp (f 4 7 rfl rfl) (f2_fn (c := 45) f rfl (fun _ => rfl)) (f2_fn (c := 46) f rfl (fun _ => rfl))), ⟨(show rg (_ : Int32) _ _ by rw [f 8 1 rfl rfl]; exact s9.1), (show rg (_ : Int32) _ _ by rw [f 8 2 rfl rfl]; exact s9.2)⟩, ⟨(show rg (_ : Int32) _ _ by rw [f 9 1 rfl rfl]; exact s10.1), (show rg (_ : Int32) _ _ by rw [f 9 2 rfl rfl]; exact s10.2)⟩, ⟨(show rg (_ : Int32) _ _ by rw [f 10 1 rfl rfl]; exact s11.1), (show rg (_ : Int32) _ _ by rw [f 10 2 rfl rfl]; exact s11.2)⟩, ⟨(show rg (_ : Int32) _ _ by rw [f 11 1 rfl rfl]; exact s12.1), (show rg (_ : Int32) _ _ by rw [f 11 2 rfl rfl]; exact s12.2)⟩⟩ f (Or.inr ⟨p2, 2, by decide, mg_eq (by decide) e, Or.inr ⟨q, rfl, rfl⟩⟩)
          · exact absurd (e.symm.trans e2) (by decide)
        · exact h _ _ sc mg_f2.rf (Or.inr ⟨p2, 2, by decide, mg_eq (by decide) e, Or.inl ⟨q, rfl, rfl⟩⟩)
      · refine s_faultAs11 (by omega) b i 1 ?_
        refine And.intro (fun q => ?_) (fun q => ?_)
        · have z := mg_has s12.2 (v_fault0 q).1
          have hi : rg i 0 59 := ⟨z.1, by have := s12.2.2; have := z.2.2; have := mi_l; omega⟩
          refine And.intro B (And.intro (fun e2 => ?_) (And.intro (fun e2 => ?_) (And.intro (fun e2 => ?_) (fun e2 => ?_))))
          · exact absurd (e.symm.trans e2) (by decide)
          · exact absurd (e.symm.trans e2) (by decide)
          · exact absurd (e.symm.trans e2) (by decide)
          · refine s_put11 (by omega) i v hi ?_
            have f : mg_f2 [47, 48, 49, 50] [] I (va_up I 50 (upd (I 50) i.toNatClampNeg (vput (I 11 1) v))) := mg_f2.up mg_f2.rf rfl
            exact h _ _ ⟨(show rg (_ : Int32) _ _ by rw [f 0 7 rfl rfl]; exact s1), (show rg (_ : Int32) _ _ by rw [f 1 2 rfl rfl]; exact s2), (show rg (_ : Int32) _ _ by rw [f 1 9 rfl rfl]; exact s3), (show rg (_ : Int32) _ _ by rw [f 2 2 rfl rfl]; exact s4), (show rg (_ : Int32) _ _ by rw [f 3 6 rfl rfl]; exact s5), (fun j => (by rw [f 25 j rfl rfl]; exact s6 j)), (s7.kp (f 4 7 rfl rfl) (f2_fn (c := 31) f rfl (fun _ => rfl)) (f2_fn (c := 32) f rfl (fun _ => rfl)) (f2_fn (c := 33) f rfl (fun _ => rfl))), (s8.kp (f 4 7 rfl rfl) (f2_fn (c := 45) f rfl (fun _ => rfl)) (f2_fn (c := 46) f rfl (fun _ => rfl))), ⟨(show rg (_ : Int32) _ _ by rw [f 8 1 rfl rfl]; exact s9.1), (show rg (_ : Int32) _ _ by rw [f 8 2 rfl rfl]; exact s9.2)⟩, ⟨(show rg (_ : Int32) _ _ by rw [f 9 1 rfl rfl]; exact s10.1), (show rg (_ : Int32) _ _ by rw [f 9 2 rfl rfl]; exact s10.2)⟩, ⟨(show rg (_ : Int32) _ _ by rw [f 10 1 rfl rfl]; exact s11.1), (show rg (_ : Int32) _ _ by rw [f 10 2 rfl rfl]; exact s11.2)⟩, ⟨(show rg (_ : Int32) _ _ by rw [f 11 1 rfl rfl]; exact s12.1), (show rg (_ : Int32) _ _ by rw [f 11 2 rfl rfl]; exact s12.2)⟩⟩ f (Or.inr ⟨p2, 3, by decide, mg_eq (by decide) e, Or.inr ⟨q, rfl, rfl⟩⟩)
        · exact h _ _ sc mg_f2.rf (Or.inr ⟨p2, 3, by decide, mg_eq (by decide) e, Or.inl ⟨q, rfl, rfl⟩⟩)
    · first | refine And.intro (fun z => absurd z (by decide)) (fun _ => ?_) | refine And.intro (fun _ => ?_) (fun z => absurd z (by decide))
      exact h _ _ sc mg_f2.rf (Or.inl ⟨fun z => p2 z.2, rfl, rfl⟩)
  · first | refine And.intro (fun z => absurd z (by decide)) (fun _ => ?_) | refine And.intro (fun _ => ?_) (fun z => absurd z (by decide))
    exact h _ _ sc mg_f2.rf (Or.inl ⟨fun z => p1 z.1, rfl, rfl⟩)

