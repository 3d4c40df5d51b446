set_option maxHeartbeats 1000000 in
theorem f_surf {d : Nat} (hd : 4 ≤ d) (a b c e g : Int32) {I : mv_I} {J : mv_J} {Q : mv_Q} (fr : mv_fr I) (h : ∀ (r : Int32) (I' : mv_I), mv_md I I' → r = v_surf a b c g → Q (some (.inl r)) I' J) : mv_wpM mv_tab mv_sh d 69 [.inr (.inr 0), .inl a, .inl b, .inl c, .inl e, .inl g] I J Q := by
  obtain ⟨d, rfl⟩ : ∃ e, d = e + 1 := ⟨d - 1, by omega⟩
  refine (show ∃ fu9, mv_wp (mv_wpM mv_tab mv_sh d) mv_sh none tbX7_surf flX7 csX7 1 (fun _ _ _ _ _ => False) Q fu9 0 [some (.inr (.inr 0)), some (.inl a), some (.inl b), some (.inl c), some (.inl e), some (.inl g), none, none] [] I J from ?_)
  refine ⟨80, ?_⟩
  obtain ⟨f1, f2, f3, f4, f5, f6, f7, f8, f9, f10, f11, f12, f13, f14⟩ := fr
  refine c_isDay (by omega) a (fun p0 => ?_) (fun p0 => ?_)
  · first | refine And.intro (fun z => absurd z (by decide)) (fun _ => ?_) | refine And.intro (fun _ => ?_) (fun z => absurd z (by decide))
    refine c_isSheet (by omega) b (fun p1 => ?_) (fun p1 => ?_)
    · first | refine And.intro (fun z => absurd z (by decide)) (fun _ => ?_) | refine And.intro (fun _ => ?_) (fun z => absurd z (by decide))
      refine c_isLane (by omega) c (fun p2 => ?_) (fun p2 => ?_)
      · first | refine And.intro (fun z => absurd z (by decide)) (fun _ => ?_) | refine And.intro (fun _ => ?_) (fun z => absurd z (by decide))
        refine c_isWithin (by omega) g 0 _ (fun p3 => ?_) (fun p3 => ?_)
        · first | refine And.intro (fun z => absurd z (by decide)) (fun _ => ?_) | refine And.intro (fun _ => ?_) (fun z => absurd z (by decide))
          refine And.intro (mi_s4 p1) (And.intro (fun _ => ?_) (And.intro (fun _ => ?_) (And.intro (fun _ => ?_) (fun _ => ?_))))
          · refine f_faultAs0 (by omega) c e g f11 ?_
            first | refine And.intro (fun z => absurd z (by decide)) (fun _ => ?_) | refine And.intro (fun _ => ?_) (fun z => absurd z (by decide))
            exact h _ _ mv_md.rf (((if_pos p0).trans ((if_pos p1).trans ((if_pos p2).trans (if_pos p3))))).symm
          · refine f_faultAs1 (by omega) c e g f12 ?_
            first | refine And.intro (fun z => absurd z (by decide)) (fun _ => ?_) | refine And.intro (fun _ => ?_) (fun z => absurd z (by decide))
            exact h _ _ mv_md.rf (((if_pos p0).trans ((if_pos p1).trans ((if_pos p2).trans (if_pos p3))))).symm
          · refine f_faultAs2 (by omega) c e g f13 ?_
            first | refine And.intro (fun z => absurd z (by decide)) (fun _ => ?_) | refine And.intro (fun _ => ?_) (fun z => absurd z (by decide))
            exact h _ _ mv_md.rf (((if_pos p0).trans ((if_pos p1).trans ((if_pos p2).trans (if_pos p3))))).symm
          · refine f_faultAs3 (by omega) c e g f14 ?_
            first | refine And.intro (fun z => absurd z (by decide)) (fun _ => ?_) | refine And.intro (fun _ => ?_) (fun z => absurd z (by decide))
            exact h _ _ mv_md.rf (((if_pos p0).trans ((if_pos p1).trans ((if_pos p2).trans (if_pos p3))))).symm
        · first | refine And.intro (fun z => absurd z (by decide)) (fun _ => ?_) | refine And.intro (fun _ => ?_) (fun z => absurd z (by decide))
          exact h _ _ mv_md.rf (((if_pos p0).trans ((if_pos p1).trans ((if_pos p2).trans (if_neg p3))))).symm
      · first | refine And.intro (fun z => absurd z (by decide)) (fun _ => ?_) | refine And.intro (fun _ => ?_) (fun z => absurd z (by decide))
        exact h _ _ mv_md.rf (((if_pos p0).trans ((if_pos p1).trans (if_neg p2)))).symm
    · first | refine And.intro (fun z => absurd z (by decide)) (fun _ => ?_) | refine And.intro (fun _ => ?_) (fun z => absurd z (by decide))
      exact h _ _ mv_md.rf (((if_pos p0).trans (if_neg p1))).symm
  · first | refine And.intro (fun z => absurd z (by decide)) (fun _ => ?_) | refine And.intro (fun _ => ?_) (fun z => absurd z (by decide))
    exact h _ _ mv_md.rf ((if_neg p0)).symm

set_option maxHeartbeats 1000000 in
theorem g_surf {d : Nat} (hd : 4 ≤ d) (a b c e g : Int32) {I : mv_I} {J : mv_J} {Q : mv_Q} (fm : mv_fm I) (h : ∀ (r : Int32) (I' : mv_I) (J' : mv_J), r = v_surf a b c g → Q (some (.inl r)) I' J') : mv_wpM mv_tab mv_sh d 129 [.inr (.inr 12), .inl a, .inl b, .inl c, .inl e, .inl g] I J Q := by
  obtain ⟨d, rfl⟩ : ∃ e, d = e + 1 := ⟨d - 1, by omega⟩
  refine (show ∃ fu9, mv_wp (mv_wpM mv_tab mv_sh d) mv_sh none tbX8_surf flX8 csX8 1 (fun _ _ _ _ _ => False) Q fu9 0 [some (.inr (.inr 12)), some (.inl a), some (.inl b), some (.inl c), some (.inl e), some (.inl g), none, none] [] I J from ?_)
  refine ⟨80, ?_⟩
  obtain ⟨f1, f2, f3, f4, f5, f6, f7, f8, f9, f10, f11⟩ := fm
  refine c_in (by omega) a 0 59 (fun p0 => ?_) (fun p0 => ?_)
  · first | refine And.intro (fun z => absurd z (by decide)) (fun _ => ?_) | refine And.intro (fun _ => ?_) (fun z => absurd z (by decide))
    refine c8_isSheet (by omega) b (fun p1 => ?_) (fun p1 => ?_)
    · first | refine And.intro (fun z => absurd z (by decide)) (fun _ => ?_) | refine And.intro (fun _ => ?_) (fun z => absurd z (by decide))
      refine c_in (by omega) c 0 2 (fun p2 => ?_) (fun p2 => ?_)
      · first | refine And.intro (fun z => absurd z (by decide)) (fun _ => ?_) | refine And.intro (fun _ => ?_) (fun z => absurd z (by decide))
        by_cases p3 : 0 ≤ g ∧ g ≤ 60 - a
        · first | refine And.intro (fun q => ?_) (fun q => absurd q (fun q => by (simp only [mi_le, mi_lt, mi_eq] at *; have := mi_l; omega))) | refine And.intro (fun q => absurd q (fun q => by (simp only [mi_le, mi_lt, mi_eq] at *; have := mi_l; omega))) (fun q => ?_)
          first | refine And.intro (fun q => ?_) (fun q => absurd q (fun q => by (simp only [mi_le, mi_lt, mi_eq] at *; have := mi_l; omega))) | refine And.intro (fun q => absurd q (fun q => by (simp only [mi_le, mi_lt, mi_eq] at *; have := mi_l; omega))) (fun q => ?_)
          refine And.intro (mi_s4 p1) ?_
          have e9 := mi_l4 f11 p1
          first | refine And.intro (fun q => ?_) (fun q => absurd q (fun q => by (simp only [mi_le, mi_lt, mi_eq] at *; have := mi_l; omega))) | refine And.intro (fun q => absurd q (fun q => by (simp only [mi_le, mi_lt, mi_eq] at *; have := mi_l; omega))) (fun q => ?_)
          exact h _ _ _ (((if_pos p0).trans ((if_pos p1).trans ((if_pos p2).trans (if_pos p3))))).symm
        · have v : ∀ I' J', Q (some (.inl (-1))) I' J' := fun I' J' => h _ _ _ ((if_pos p0).trans ((if_pos p1).trans ((if_pos p2).trans (if_neg p3)))).symm
          first | refine And.intro (fun q => ?_) (fun q => ?_) | skip
          all_goals first | exact v _ _ | refine And.intro (fun q2 => ?_) (fun q2 => ?_)
          all_goals first | exact v _ _ | exact absurd p3 (fun z => z (by (simp only [mi_le, mi_lt, mi_eq] at *; have := mi_l; omega)))
      · first | refine And.intro (fun z => absurd z (by decide)) (fun _ => ?_) | refine And.intro (fun _ => ?_) (fun z => absurd z (by decide))
        exact h _ _ _ (((if_pos p0).trans ((if_pos p1).trans (if_neg p2)))).symm
    · first | refine And.intro (fun z => absurd z (by decide)) (fun _ => ?_) | refine And.intro (fun _ => ?_) (fun z => absurd z (by decide))
      exact h _ _ _ (((if_pos p0).trans (if_neg p1))).symm
  · first | refine And.intro (fun z => absurd z (by decide)) (fun _ => ?_) | refine And.intro (fun _ => ?_) (fun z => absurd z (by decide))
    exact h _ _ _ ((if_neg p0)).symm

set_option maxHeartbeats 1000000 in
theorem f_addShip {d : Nat} (hd : 1 ≤ d) (a b c e g : Int32) {I : mv_I} {J : mv_J} {Q : mv_Q} (f : I 4 7 = 0) (h : ∀ (r : Int32) (I' : mv_I), mv_md I I' → r = 0 → Q (some (.inl r)) I' J) : mv_wpM mv_tab mv_sh d 1 [.inr (.inr 4), .inl a, .inl b, .inl c, .inl e, .inl g] I J Q := by
  obtain ⟨d, rfl⟩ : ∃ e, d = e + 1 := ⟨d - 1, by omega⟩
  refine (show ∃ fu9, mv_wp (mv_wpM mv_tab mv_sh d) mv_sh none tbX0_add flX0 csX0 1 (fun _ _ _ _ _ => False) Q fu9 0 [some (.inr (.inr 4)), some (.inl a), some (.inl b), some (.inl c), some (.inl e), some (.inl g)] [] I J from ?_)
  refine ⟨80, ?_⟩
  first | refine And.intro (fun q => ?_) (fun q => absurd q (fun q => by (simp only [mi_le, mi_lt, mi_eq] at *; have := mi_l; omega))) | refine And.intro (fun q => absurd q (fun q => by (simp only [mi_le, mi_lt, mi_eq] at *; have := mi_l; omega))) (fun q => ?_)
  refine And.intro (mi_in0 (n := 6) f (by decide)) ?_
  refine And.intro (mi_in0 (n := 6) (by simp [va_up, upd, f]) (by decide)) ?_
  refine And.intro (mi_in0 (n := 6) (by simp [va_up, upd, f]) (by decide)) ?_
  refine And.intro (mi_in0 (n := 6) (by simp [va_up, upd, f]) (by decide)) ?_
  refine And.intro (mi_in0 (n := 6) (by simp [va_up, upd, f]) (by decide)) ?_
  exact h _ _ (by repeat (first | exact mv_md.rf | refine mv_md.up ?_ (by decide))) (by simp [va_up, upd, f])

set_option maxHeartbeats 1000000 in
theorem f_ship {d : Nat} (hd : 4 ≤ d) (a b c e g : Int32) {I : mv_I} {J : mv_J} {Q : mv_Q} (fr : mv_fr I) (h : ∀ (r : Int32) (I' : mv_I), mv_md I I' → r = v_ship a b c e g → Q (some (.inl r)) I' J) : mv_wpM mv_tab mv_sh d 63 [.inr (.inr 0), .inl a, .inl b, .inl c, .inl e, .inl g] I J Q := by
  obtain ⟨d, rfl⟩ : ∃ e, d = e + 1 := ⟨d - 1, by omega⟩
  refine (show ∃ fu9, mv_wp (mv_wpM mv_tab mv_sh d) mv_sh none tbX7_ship flX7 csX7 1 (fun _ _ _ _ _ => False) Q fu9 0 [some (.inr (.inr 0)), some (.inl a), some (.inl b), some (.inl c), some (.inl e), some (.inl g)] [] I J from ?_)
  refine ⟨80, ?_⟩
  obtain ⟨f1, f2, f3, f4, f5, f6, f7, f8, f9, f10, f11, f12, f13, f14⟩ := fr
  refine c_isDay (by omega) a (fun p0 => ?_) (fun p0 => ?_)
  · first | refine And.intro (fun z => absurd z (by decide)) (fun _ => ?_) | refine And.intro (fun _ => ?_) (fun z => absurd z (by decide))
    refine c_isWithin (by omega) b 1 20000 (fun p1 => ?_) (fun p1 => ?_)
    · first | refine And.intro (fun z => absurd z (by decide)) (fun _ => ?_) | refine And.intro (fun _ => ?_) (fun z => absurd z (by decide))
      refine c_isWithin (by omega) c 1 2000 (fun p2 => ?_) (fun p2 => ?_)
      · first | refine And.intro (fun z => absurd z (by decide)) (fun _ => ?_) | refine And.intro (fun _ => ?_) (fun z => absurd z (by decide))
        refine c_isWithin (by omega) e 0 30 (fun p3 => ?_) (fun p3 => ?_)
        · first | refine And.intro (fun z => absurd z (by decide)) (fun _ => ?_) | refine And.intro (fun _ => ?_) (fun z => absurd z (by decide))
          refine c_isWithin (by omega) g 0 100 (fun p4 => ?_) (fun p4 => ?_)
          · first | refine And.intro (fun z => absurd z (by decide)) (fun _ => ?_) | refine And.intro (fun _ => ?_) (fun z => absurd z (by decide))
            exact f_addShip (by omega) a b c e g f7 (fun r I' m z => h r I' m (z.trans (((if_pos p0).trans ((if_pos p1).trans ((if_pos p2).trans ((if_pos p3).trans (if_pos p4)))))).symm))
          · first | refine And.intro (fun z => absurd z (by decide)) (fun _ => ?_) | refine And.intro (fun _ => ?_) (fun z => absurd z (by decide))
            exact h _ _ mv_md.rf (((if_pos p0).trans ((if_pos p1).trans ((if_pos p2).trans ((if_pos p3).trans (if_neg p4)))))).symm
        · first | refine And.intro (fun z => absurd z (by decide)) (fun _ => ?_) | refine And.intro (fun _ => ?_) (fun z => absurd z (by decide))
          exact h _ _ mv_md.rf (((if_pos p0).trans ((if_pos p1).trans ((if_pos p2).trans (if_neg p3))))).symm
      · first | refine And.intro (fun z => absurd z (by decide)) (fun _ => ?_) | refine And.intro (fun _ => ?_) (fun z => absurd z (by decide))
        exact h _ _ mv_md.rf (((if_pos p0).trans ((if_pos p1).trans (if_neg p2)))).symm
    · first | refine And.intro (fun z => absurd z (by decide)) (fun _ => ?_) | refine And.intro (fun _ => ?_) (fun z => absurd z (by decide))
      exact h _ _ mv_md.rf (((if_pos p0).trans (if_neg p1))).symm
  · first | refine And.intro (fun z => absurd z (by decide)) (fun _ => ?_) | refine And.intro (fun _ => ?_) (fun z => absurd z (by decide))
    exact h _ _ mv_md.rf ((if_neg p0)).symm

set_option maxHeartbeats 1000000 in
theorem g_ship {d : Nat} (hd : 4 ≤ d) (a b c e g : Int32) {I : mv_I} {J : mv_J} {Q : mv_Q} (fm : mv_fm I) (h : ∀ (r : Int32) (I' : mv_I) (J' : mv_J), r = v_ship a b c e g → Q (some (.inl r)) I' J') : mv_wpM mv_tab mv_sh d 106 [.inr (.inr 12), .inl a, .inl b, .inl c, .inl e, .inl g] I J Q := by
  obtain ⟨d, rfl⟩ : ∃ e, d = e + 1 := ⟨d - 1, by omega⟩
  refine (show ∃ fu9, mv_wp (mv_wpM mv_tab mv_sh d) mv_sh none tbX8_ship flX8 csX8 1 (fun _ _ _ _ _ => False) Q fu9 0 [some (.inr (.inr 12)), some (.inl a), some (.inl b), some (.inl c), some (.inl e), some (.inl g)] [] I J from ?_)
  refine ⟨120, ?_⟩
  obtain ⟨f1, f2, f3, f4, f5, f6, f7, f8, f9, f10, f11⟩ := fm
  refine c_in (by omega) a 0 59 (fun p0 => ?_) (fun p0 => ?_)
  · first | refine And.intro (fun z => absurd z (by decide)) (fun _ => ?_) | refine And.intro (fun _ => ?_) (fun z => absurd z (by decide))
    refine c_in (by omega) b 1 20000 (fun p1 => ?_) (fun p1 => ?_)
    · first | refine And.intro (fun z => absurd z (by decide)) (fun _ => ?_) | refine And.intro (fun _ => ?_) (fun z => absurd z (by decide))
      refine c_in (by omega) c 1 2000 (fun p2 => ?_) (fun p2 => ?_)
      · first | refine And.intro (fun z => absurd z (by decide)) (fun _ => ?_) | refine And.intro (fun _ => ?_) (fun z => absurd z (by decide))
        refine c_in (by omega) e 0 30 (fun p3 => ?_) (fun p3 => ?_)
        · first | refine And.intro (fun z => absurd z (by decide)) (fun _ => ?_) | refine And.intro (fun _ => ?_) (fun z => absurd z (by decide))
          refine c_in (by omega) g 0 100 (fun p4 => ?_) (fun p4 => ?_)
          · first | refine And.intro (fun z => absurd z (by decide)) (fun _ => ?_) | refine And.intro (fun _ => ?_) (fun z => absurd z (by decide))
            first | refine And.intro (fun q => ?_) (fun q => absurd q (fun q => by (simp only [mi_le, mi_lt, mi_eq] at *; have := mi_l; omega))) | refine And.intro (fun q => absurd q (fun q => by (simp only [mi_le, mi_lt, mi_eq] at *; have := mi_l; omega))) (fun q => ?_)
            refine And.intro (mi_in0 (n := 6) f7 (by decide)) ?_
            refine And.intro (mi_in0 (n := 6) (by simp [va_up, upd, f7]) (by decide)) ?_
            refine And.intro (mi_in0 (n := 6) (by simp [va_up, upd, f7]) (by decide)) ?_
            refine And.intro (mi_in0 (n := 6) (by simp [va_up, upd, f7]) (by decide)) ?_
            refine And.intro (mi_in0 (n := 6) (by simp [va_up, upd, f7]) (by decide)) ?_
            exact h _ _ _ (Eq.trans (b := 0) (by simp [va_up, upd, f7]) (((if_pos p0).trans ((if_pos p1).trans ((if_pos p2).trans ((if_pos p3).trans (if_pos p4)))))).symm)
          · first | refine And.intro (fun z => absurd z (by decide)) (fun _ => ?_) | refine And.intro (fun _ => ?_) (fun z => absurd z (by decide))
            exact h _ _ _ (((if_pos p0).trans ((if_pos p1).trans ((if_pos p2).trans ((if_pos p3).trans (if_neg p4)))))).symm
        · first | refine And.intro (fun z => absurd z (by decide)) (fun _ => ?_) | refine And.intro (fun _ => ?_) (fun z => absurd z (by decide))
          exact h _ _ _ (((if_pos p0).trans ((if_pos p1).trans ((if_pos p2).trans (if_neg p3))))).symm
      · first | refine And.intro (fun z => absurd z (by decide)) (fun _ => ?_) | refine And.intro (fun _ => ?_) (fun z => absurd z (by decide))
        exact h _ _ _ (((if_pos p0).trans ((if_pos p1).trans (if_neg p2)))).symm
    · first | refine And.intro (fun z => absurd z (by decide)) (fun _ => ?_) | refine And.intro (fun _ => ?_) (fun z => absurd z (by decide))
      exact h _ _ _ (((if_pos p0).trans (if_neg p1))).symm
  · first | refine And.intro (fun z => absurd z (by decide)) (fun _ => ?_) | refine And.intro (fun _ => ?_) (fun z => absurd z (by decide))
    exact h _ _ _ ((if_neg p0)).symm

set_option maxHeartbeats 1000000 in
theorem f_sumOf28 {d : Nat} (hd : 1 ≤ d) {I : mv_I} {J : mv_J} {Q : mv_Q} (f : I 3 6 = 0) (h : Q (some (.inl 0)) I J) : mv_wpM mv_tab mv_sh d 12 [.inr (.inr 3), .inr (.inr 28)] I J Q := by
  obtain ⟨d, rfl⟩ : ∃ e, d = e + 1 := ⟨d - 1, by omega⟩
  refine (show ∃ fu9, mv_wp (mv_wpM mv_tab mv_sh d) mv_sh none tbX1_sumOf flX1 csX1 1 (fun _ _ _ _ _ => False) Q fu9 0 [some (.inr (.inr 3)), some (.inr (.inr 28)), none, none] [] I J from ?_)
  refine ⟨60, ?_⟩
  refine And.intro ?_ trivial
  first | refine And.intro (fun q => ?_) (fun q => absurd q (fun q => by (simp only [mi_le, mi_lt, mi_eq] at *; have := mi_l; omega))) | refine And.intro (fun q => absurd q (fun q => by (simp only [mi_le, mi_lt, mi_eq] at *; have := mi_l; omega))) (fun q => ?_)
  exact h

set_option maxHeartbeats 1000000 in
theorem f_sumOf29 {d : Nat} (hd : 1 ≤ d) {I : mv_I} {J : mv_J} {Q : mv_Q} (f : I 3 6 = 0) (h : Q (some (.inl 0)) I J) : mv_wpM mv_tab mv_sh d 12 [.inr (.inr 3), .inr (.inr 29)] I J Q := by
  obtain ⟨d, rfl⟩ : ∃ e, d = e + 1 := ⟨d - 1, by omega⟩
  refine (show ∃ fu9, mv_wp (mv_wpM mv_tab mv_sh d) mv_sh none tbX1_sumOf flX1 csX1 1 (fun _ _ _ _ _ => False) Q fu9 0 [some (.inr (.inr 3)), some (.inr (.inr 29)), none, none] [] I J from ?_)
  refine ⟨60, ?_⟩
  refine And.intro ?_ trivial
  first | refine And.intro (fun q => ?_) (fun q => absurd q (fun q => by (simp only [mi_le, mi_lt, mi_eq] at *; have := mi_l; omega))) | refine And.intro (fun q => absurd q (fun q => by (simp only [mi_le, mi_lt, mi_eq] at *; have := mi_l; omega))) (fun q => ?_)
  exact h

set_option maxHeartbeats 1000000 in
theorem f_sumOf30 {d : Nat} (hd : 1 ≤ d) {I : mv_I} {J : mv_J} {Q : mv_Q} (f : I 3 6 = 0) (h : Q (some (.inl 0)) I J) : mv_wpM mv_tab mv_sh d 12 [.inr (.inr 3), .inr (.inr 30)] I J Q := by
  obtain ⟨d, rfl⟩ : ∃ e, d = e + 1 := ⟨d - 1, by omega⟩
  refine (show ∃ fu9, mv_wp (mv_wpM mv_tab mv_sh d) mv_sh none tbX1_sumOf flX1 csX1 1 (fun _ _ _ _ _ => False) Q fu9 0 [some (.inr (.inr 3)), some (.inr (.inr 30)), none, none] [] I J from ?_)
  refine ⟨60, ?_⟩
  refine And.intro ?_ trivial
  first | refine And.intro (fun q => ?_) (fun q => absurd q (fun q => by (simp only [mi_le, mi_lt, mi_eq] at *; have := mi_l; omega))) | refine And.intro (fun q => absurd q (fun q => by (simp only [mi_le, mi_lt, mi_eq] at *; have := mi_l; omega))) (fun q => ?_)
  exact h

set_option maxHeartbeats 1000000 in
theorem f_count {d : Nat} (hd : 4 ≤ d) (a : Int32) {I : mv_I} {J : mv_J} {Q : mv_Q} (fr : mv_fr I) (h : ∀ (r : Int32) (I' : mv_I), mv_md I I' → r = v_count a → Q (some (.inl r)) I' J) : mv_wpM mv_tab mv_sh d 74 [.inr (.inr 0), .inl a] I J Q := by
  obtain ⟨d, rfl⟩ : ∃ e, d = e + 1 := ⟨d - 1, by omega⟩
  refine (show ∃ fu9, mv_wp (mv_wpM mv_tab mv_sh d) mv_sh none tbX7_count flX7 csX7 1 (fun _ _ _ _ _ => False) Q fu9 0 [some (.inr (.inr 0)), some (.inl a)] [] I J from ?_)
  refine ⟨60, ?_⟩
  obtain ⟨f1, f2, f3, f4, f5, f6, f7, f8, f9, f10, f11, f12, f13, f14⟩ := fr
  refine And.intro (fun q => h _ _ mv_md.rf (if_neg (by omega)).symm) ?_
  refine And.intro (fun q => h _ _ mv_md.rf (f2.trans (if_pos (by omega)).symm)) ?_
  refine And.intro (fun q => h _ _ mv_md.rf (f6.trans (if_pos (by omega)).symm)) ?_
  refine And.intro (fun q => h _ _ mv_md.rf (f4.trans (if_pos (by omega)).symm)) ?_
  refine And.intro (fun q => h _ _ mv_md.rf (f7.trans (if_pos (by omega)).symm)) ?_
  refine And.intro (fun q => h _ _ mv_md.rf (f1.trans (if_pos (by omega)).symm)) ?_
  refine And.intro (fun q => f_sumOf28 (by omega) f6 (h _ _ mv_md.rf (if_pos (by omega)).symm)) ?_
  refine And.intro (fun q => f_sumOf29 (by omega) f6 (h _ _ mv_md.rf (if_pos (by omega)).symm)) ?_
  refine And.intro (fun q => f_sumOf30 (by omega) f6 (h _ _ mv_md.rf (if_pos (by omega)).symm)) trivial

set_option maxHeartbeats 1000000 in
theorem g_count {d : Nat} (hd : 4 ≤ d) (a : Int32) {I : mv_I} {J : mv_J} {Q : mv_Q} (fm : mv_fm I) (h : ∀ (r : Int32) (I' : mv_I) (J' : mv_J), r = v_count a → Q (some (.inl r)) I' J') : mv_wpM mv_tab mv_sh d 122 [.inr (.inr 12), .inl a] I J Q := by
  obtain ⟨d, rfl⟩ : ∃ e, d = e + 1 := ⟨d - 1, by omega⟩
  refine (show ∃ fu9, mv_wp (mv_wpM mv_tab mv_sh d) mv_sh none tbX8_count flX8 csX8 1 (fun _ _ _ _ _ => False) Q fu9 0 [some (.inr (.inr 12)), some (.inl a), none, none] [] I J from ?_)
  refine ⟨60, ?_⟩
  obtain ⟨f1, f2, f3, f4, f5, f6, f7, f8, f9, f10, f11⟩ := fm
  refine And.intro ?_ trivial
  first | refine And.intro (fun q => ?_) (fun q => absurd q (fun q => by (simp only [mi_le, mi_lt, mi_eq] at *; have := mi_l; omega))) | refine And.intro (fun q => absurd q (fun q => by (simp only [mi_le, mi_lt, mi_eq] at *; have := mi_l; omega))) (fun q => ?_)
  refine And.intro (fun q => h _ _ _ (if_neg (by omega)).symm) ?_
  refine And.intro (fun q => h _ _ _ (f1.trans (if_pos (by omega)).symm)) ?_
  refine And.intro (fun q => h _ _ _ (f3.trans (if_pos (by omega)).symm)) ?_
  refine And.intro (fun q => h _ _ _ (f5.trans (if_pos (by omega)).symm)) ?_
  refine And.intro (fun q => h _ _ _ (f7.trans (if_pos (by omega)).symm)) ?_
  refine And.intro (fun q => h _ _ _ (f2.trans (if_pos (by omega)).symm)) ?_
  refine And.intro (fun q => h _ _ _ (if_pos (by omega)).symm) ?_
  refine And.intro (fun q => h _ _ _ (if_pos (by omega)).symm) ?_
  refine And.intro (fun q => h _ _ _ (if_pos (by omega)).symm) trivial

