set_option maxHeartbeats 1000000 in
theorem r_leftOf {d : Nat} (hd : 3 ≤ d) (a : Int32) {I : mv_I} {J : mv_J} {Q : mv_Q} (sm : SM I) (ha : rg a 0 7) (h : ∀ (r : Int32) (I' : mv_I) (J' : mv_J), mg_f2 [64] [] I I' → Q (some (.inl r)) I' J') : mv_wpM mv_tab mv_sh d 98 [.inr (.inr 12), .inl a] I J Q := by
  obtain ⟨d, rfl⟩ : ∃ e, d = e + 1 := ⟨d - 1, by omega⟩
  refine (show ∃ fu9, mv_wp (mv_wpM mv_tab mv_sh d) mv_sh none tbX8_leftOf flX8 csX8 1 (fun _ _ _ _ _ => False) Q fu9 0 [some (.inr (.inr 12)), some (.inl a), none, none] [] I J from ?_)
  refine ⟨60, ?_⟩
  obtain ⟨t1, t2, t3, t4, t5, t6, t7, t8, t9, t10⟩ := id sm
  have B : vp_in a 8 := vp_in_iff.mpr ⟨ha.1, by have := ha.2; omega⟩
  refine r_quotas (by omega) _ _ t3 t2 t10.1 t10.2 t9 (fun I2 J2 f2 => ?_)
  refine And.intro B ?_
  refine And.intro B ?_
  refine And.intro (fun _ => ?_) (fun _ => ?_)
  · exact h _ _ _ f2
  · exact h _ _ _ f2

set_option maxHeartbeats 1000000 in
theorem G_left {d : Nat} (hd : 4 ≤ d) (a : Int32) {I : mv_I} {J : mv_J} {Q : mv_Q} (sm : SM I) (h : ∀ (r : Int32) (I' : mv_I) (J' : mv_J), SM I' → mg_f2 [64] [] I I' → Q (some (.inl r)) I' J') : mv_wpM mv_tab mv_sh d 99 [.inr (.inr 12), .inl a] I J Q := by
  obtain ⟨d, rfl⟩ : ∃ e, d = e + 1 := ⟨d - 1, by omega⟩
  refine (show ∃ fu9, mv_wp (mv_wpM mv_tab mv_sh d) mv_sh none tbX8_left flX8 csX8 1 (fun _ _ _ _ _ => False) Q fu9 0 [some (.inr (.inr 12)), some (.inl a)] [] I J from ?_)
  refine ⟨60, ?_⟩
  obtain ⟨t1, t2, t3, t4, t5, t6, t7, t8, t9, t10⟩ := id sm
  refine c8_isWorks (by omega) a (fun p1 => ?_) (fun p1 => ?_)
  · first | refine And.intro (fun z => absurd z (by decide)) (fun _ => ?_) | refine And.intro (fun _ => ?_) (fun z => absurd z (by decide))
    exact r_leftOf (by omega) a sm (mr_lt t2.1 p1 t2.2).1 (fun r I2 J2 f => h _ _ _ ⟨(show rg (_ : Int32) _ _ by rw [f 12 3 rfl rfl]; exact t1), (show rg (_ : Int32) _ _ by rw [f 12 0 rfl rfl]; exact t2), (show rg (_ : Int32) _ _ by rw [f 12 11 rfl rfl]; exact t3), (show rg (_ : Int32) _ _ by rw [f 12 20 rfl rfl]; exact t4), (show rg (_ : Int32) _ _ by rw [f 12 4 rfl rfl]; exact t5), (fun j => (by rw [f 53 j rfl rfl]; exact t6 j)), (t7.kp (f 12 24 rfl rfl) (f2_fn (c := 67) f rfl (fun _ => rfl)) (f2_fn (c := 68) f rfl (fun _ => rfl)) (f2_fn (c := 69) f rfl (fun _ => rfl))), ⟨(fun j => (by rw [f 82 j rfl rfl]; exact t8.1 j)), (fun j => (by rw [f 83 j rfl rfl]; exact t8.2 j))⟩, (fun j => (by rw [f 59 j rfl rfl, f 60 j rfl rfl]; exact t9 j)), ⟨(t10.1.kp (f 12 0 rfl rfl) (f2_fn (c := 51) f rfl (fun _ => rfl))), (show rg (_ : Int32) _ _ by rw [f 12 10 rfl rfl]; exact t10.2)⟩⟩ f)
  · first | refine And.intro (fun z => absurd z (by decide)) (fun _ => ?_) | refine And.intro (fun _ => ?_) (fun z => absurd z (by decide))
    exact h _ _ _ sm mg_f2.rf

set_option maxHeartbeats 1000000 in
theorem G_quota {d : Nat} (hd : 4 ≤ d) (a b c : Int32) {I : mv_I} {J : mv_J} {Q : mv_Q} (sm : SM I) (h : ∀ (r : Int32) (I' : mv_I) (J' : mv_J), SM I' → mg_f2 [64] [] I I' → Q (some (.inl r)) I' J') : mv_wpM mv_tab mv_sh d 97 [.inr (.inr 12), .inl a, .inl b, .inl c] I J Q := by
  obtain ⟨d, rfl⟩ : ∃ e, d = e + 1 := ⟨d - 1, by omega⟩
  refine (show ∃ fu9, mv_wp (mv_wpM mv_tab mv_sh d) mv_sh none tbX8_quota flX8 csX8 1 (fun _ _ _ _ _ => False) Q fu9 0 [some (.inr (.inr 12)), some (.inl a), some (.inl b), some (.inl c)] [] I J from ?_)
  refine ⟨60, ?_⟩
  obtain ⟨t1, t2, t3, t4, t5, t6, t7, t8, t9, t10⟩ := id sm
  refine c8_isAsOf (by omega) a b c (fun p => ?_) (fun p => ?_)
  · first | refine And.intro (fun z => absurd z (by decide)) (fun _ => ?_) | refine And.intro (fun _ => ?_) (fun z => absurd z (by decide))
    have ha : rg a 0 7 := (mr_lt t2.1 p.1 t2.2).1
    have B : vp_in a 8 := vp_in_iff.mpr ⟨ha.1, by have := ha.2; omega⟩
    refine r_quotas (by omega) _ _ ⟨(mg_le p.2.2).1, Int.le_trans (mg_le p.2.2).2 t3.2⟩ t2 t10.1 t10.2 t9 (fun I2 J2 f2 => ?_)
    exact And.intro B (h _ _ _ ⟨(show rg (_ : Int32) _ _ by rw [f2 12 3 rfl rfl]; exact t1), (show rg (_ : Int32) _ _ by rw [f2 12 0 rfl rfl]; exact t2), (show rg (_ : Int32) _ _ by rw [f2 12 11 rfl rfl]; exact t3), (show rg (_ : Int32) _ _ by rw [f2 12 20 rfl rfl]; exact t4), (show rg (_ : Int32) _ _ by rw [f2 12 4 rfl rfl]; exact t5), (fun j => (by rw [f2 53 j rfl rfl]; exact t6 j)), (t7.kp (f2 12 24 rfl rfl) (f2_fn (c := 67) f2 rfl (fun _ => rfl)) (f2_fn (c := 68) f2 rfl (fun _ => rfl)) (f2_fn (c := 69) f2 rfl (fun _ => rfl))), ⟨(fun j => (by rw [f2 82 j rfl rfl]; exact t8.1 j)), (fun j => (by rw [f2 83 j rfl rfl]; exact t8.2 j))⟩, (fun j => (by rw [f2 59 j rfl rfl, f2 60 j rfl rfl]; exact t9 j)), ⟨(t10.1.kp (f2 12 0 rfl rfl) (f2_fn (c := 51) f2 rfl (fun _ => rfl))), (show rg (_ : Int32) _ _ by rw [f2 12 10 rfl rfl]; exact t10.2)⟩⟩ f2)
  · first | refine And.intro (fun z => absurd z (by decide)) (fun _ => ?_) | refine And.intro (fun _ => ?_) (fun z => absurd z (by decide))
    exact h _ _ _ sm mg_f2.rf

set_option maxHeartbeats 1000000 in
theorem G_lend {d : Nat} (hd : 4 ≤ d) (a b c : Int32) {I : mv_I} {J : mv_J} {Q : mv_Q} (sm : SM I) (h : ∀ (r : Int32) (I' : mv_I) (J' : mv_J), SM I' → mg_f2 [58, 59, 60, 61, 62, 64] [(12, 11)] I I' → Q (some (.inl r)) I' J') : mv_wpM mv_tab mv_sh d 93 [.inr (.inr 12), .inl a, .inl b, .inl c] I J Q := by
  obtain ⟨d, rfl⟩ : ∃ e, d = e + 1 := ⟨d - 1, by omega⟩
  refine (show ∃ fu9, mv_wp (mv_wpM mv_tab mv_sh d) mv_sh none tbX8_lend flX8 csX8 1 (fun _ _ _ _ _ => False) Q fu9 0 [some (.inr (.inr 12)), some (.inl a), some (.inl b), some (.inl c)] [] I J from ?_)
  refine ⟨80, ?_⟩
  obtain ⟨t1, t2, t3, t4, t5, t6, t7, t8, t9, t10⟩ := id sm
  refine c8_isWorks (by omega) a (fun p1 => ?_) (fun p1 => ?_)
  · first | refine And.intro (fun z => absurd z (by decide)) (fun _ => ?_) | refine And.intro (fun _ => ?_) (fun z => absurd z (by decide))
    have ha : rg a 0 7 := (mr_lt t2.1 p1 t2.2).1
    have B : vp_in a 8 := vp_in_iff.mpr ⟨ha.1, by have := ha.2; omega⟩
    refine c8_isWorks (by omega) b (fun p2 => ?_) (fun p2 => ?_)
    · first | refine And.intro (fun z => absurd z (by decide)) (fun _ => ?_) | refine And.intro (fun _ => ?_) (fun z => absurd z (by decide))
      have hb : rg b 0 7 := (mr_lt t2.1 p2 t2.2).1
      refine And.intro (fun q1 => ?_) (fun q1 => ?_)
      · exact h _ _ _ sm mg_f2.rf
      · refine c_in (by omega) c 1 _ (fun p3 => ?_) (fun p3 => ?_)
        · first | refine And.intro (fun z => absurd z (by decide)) (fun _ => ?_) | refine And.intro (fun _ => ?_) (fun z => absurd z (by decide))
          refine r_quotas (by omega) _ _ t3 t2 t10.1 t10.2 t9 (fun I2 J2 f2 => ?_)
          have f3 : mg_f2 [58, 59, 60, 61, 62, 64] [(12, 11)] I I2 := f2.mono rfl rfl
          have t92 : ∀ j, rg (I2 59 j) 0 7 ∧ rg (I2 60 j) 0 7 := fun j => by rw [f2 59 j rfl rfl, f2 60 j rfl rfl]; exact t9 j
          refine And.intro B ?_
          refine And.intro B ?_
          refine And.intro (fun _ => ?_) (fun _ => ?_)
          · refine r_entry (by omega) _ _ _ _ _ ha hb t92 (by rw [f2 12 11 rfl rfl]; exact t3) (fun r I4 f4 g3 g9 => ?_)
            have f5 : mg_f2 [58, 59, 60, 61, 62, 64] [(12, 11)] I I4 := f3.tr (f4.mono rfl rfl)
            exact h _ _ _ ⟨(show rg (_ : Int32) _ _ by rw [f5 12 3 rfl rfl]; exact t1), (show rg (_ : Int32) _ _ by rw [f5 12 0 rfl rfl]; exact t2), g3, (show rg (_ : Int32) _ _ by rw [f5 12 20 rfl rfl]; exact t4), (show rg (_ : Int32) _ _ by rw [f5 12 4 rfl rfl]; exact t5), (fun j => (by rw [f5 53 j rfl rfl]; exact t6 j)), (t7.kp (f5 12 24 rfl rfl) (f2_fn (c := 67) f5 rfl (fun _ => rfl)) (f2_fn (c := 68) f5 rfl (fun _ => rfl)) (f2_fn (c := 69) f5 rfl (fun _ => rfl))), ⟨(fun j => (by rw [f5 82 j rfl rfl]; exact t8.1 j)), (fun j => (by rw [f5 83 j rfl rfl]; exact t8.2 j))⟩, g9, ⟨(t10.1.kp (f5 12 0 rfl rfl) (f2_fn (c := 51) f5 rfl (fun _ => rfl))), (show rg (_ : Int32) _ _ by rw [f5 12 10 rfl rfl]; exact t10.2)⟩⟩ f5
          · exact h _ _ _ ⟨(show rg (_ : Int32) _ _ by rw [f2 12 3 rfl rfl]; exact t1), (show rg (_ : Int32) _ _ by rw [f2 12 0 rfl rfl]; exact t2), (show rg (_ : Int32) _ _ by rw [f2 12 11 rfl rfl]; exact t3), (show rg (_ : Int32) _ _ by rw [f2 12 20 rfl rfl]; exact t4), (show rg (_ : Int32) _ _ by rw [f2 12 4 rfl rfl]; exact t5), (fun j => (by rw [f2 53 j rfl rfl]; exact t6 j)), (t7.kp (f2 12 24 rfl rfl) (f2_fn (c := 67) f2 rfl (fun _ => rfl)) (f2_fn (c := 68) f2 rfl (fun _ => rfl)) (f2_fn (c := 69) f2 rfl (fun _ => rfl))), ⟨(fun j => (by rw [f2 82 j rfl rfl]; exact t8.1 j)), (fun j => (by rw [f2 83 j rfl rfl]; exact t8.2 j))⟩, (fun j => (by rw [f2 59 j rfl rfl, f2 60 j rfl rfl]; exact t9 j)), ⟨(t10.1.kp (f2 12 0 rfl rfl) (f2_fn (c := 51) f2 rfl (fun _ => rfl))), (show rg (_ : Int32) _ _ by rw [f2 12 10 rfl rfl]; exact t10.2)⟩⟩ f3
        · first | refine And.intro (fun z => absurd z (by decide)) (fun _ => ?_) | refine And.intro (fun _ => ?_) (fun z => absurd z (by decide))
          exact h _ _ _ sm mg_f2.rf
    · first | refine And.intro (fun z => absurd z (by decide)) (fun _ => ?_) | refine And.intro (fun _ => ?_) (fun z => absurd z (by decide))
      exact h _ _ _ sm mg_f2.rf
  · first | refine And.intro (fun z => absurd z (by decide)) (fun _ => ?_) | refine And.intro (fun _ => ?_) (fun z => absurd z (by decide))
    exact h _ _ _ sm mg_f2.rf

set_option maxHeartbeats 1000000 in
theorem G_load {d : Nat} (hd : 5 ≤ d) (a b c : Int32) {I : mv_I} {J : mv_J} {Q : mv_Q} (sm : SM I) (h : ∀ (r : Int32) (I' : mv_I) (J' : mv_J), SM I' → mg_f2 [52, 56, 64, 72] [] I I' → Q (some (.inl r)) I' J') : mv_wpM mv_tab mv_sh d 108 [.inr (.inr 12), .inl a, .inl b, .inl c] I J Q := by
  obtain ⟨d, rfl⟩ : ∃ e, d = e + 1 := ⟨d - 1, by omega⟩
  refine (show ∃ fu9, mv_wp (mv_wpM mv_tab mv_sh d) mv_sh none tbX8_load flX8 csX8 1 (fun _ _ _ _ _ => False) Q fu9 0 [some (.inr (.inr 12)), some (.inl a), some (.inl b), some (.inl c), none] [] I J from ?_)
  refine ⟨120, ?_⟩
  obtain ⟨t1, t2, t3, t4, t5, t6, t7, t8, t9, t10⟩ := id sm
  refine c8_isShip (by omega) a (fun p1 => ?_) (fun p1 => ?_)
  · first | refine And.intro (fun z => absurd z (by decide)) (fun _ => ?_) | refine And.intro (fun _ => ?_) (fun z => absurd z (by decide))
    have ha : rg a 0 5 := (mr_lt t7.1.1 p1 t7.1.2).1
    have Ba : vp_in a 6 := vp_in_iff.mpr ⟨ha.1, by have := ha.2; omega⟩
    refine c8_isLot (by omega) b (fun p2 => ?_) (fun p2 => ?_)
    · first | refine And.intro (fun z => absurd z (by decide)) (fun _ => ?_) | refine And.intro (fun _ => ?_) (fun z => absurd z (by decide))
      have hb : rg b 0 59 := (mr_lt t5.1 p2 t5.2).1
      have Bb : vp_in b 60 := vp_in_iff.mpr ⟨hb.1, by have := hb.2; omega⟩
      have hw := t6 b.toNatClampNeg
      have Bw : vp_in (I 53 b.toNatClampNeg) 8 := vp_in_iff.mpr ⟨hw.1, by have := hw.2; omega⟩
      have Bh := (mi_360r ha hb).1
      refine And.intro (fun q1 => ?_) (fun q1 => ?_)
      · refine And.intro Bb ?_
        refine And.intro Bb ?_
        refine And.intro (fun q2 => ?_) (fun q2 => ?_)
        · exact h _ _ _ sm mg_f2.rf
        · refine And.intro Ba ?_
          refine r_inHold (by omega) a ha t5 (fun r => ?_)
          refine And.intro (fun q3 => ?_) (fun q3 => ?_)
          · exact h _ _ _ sm mg_f2.rf
          · refine r_leftOf (by omega) _ sm hw (fun r2 I2 J2 f2 => ?_)
            have f3 : mg_f2 [52, 56, 64, 72] [] I I2 := f2.mono rfl rfl
            refine And.intro (fun q4 => ?_) (fun q4 => ?_)
            · refine And.intro Bb ?_
              refine And.intro Bb ?_
              refine And.intro Bh ?_
              refine And.intro Bh ?_
              refine And.intro Bw ?_
              refine And.intro Bw ?_
              refine And.intro Bh ?_
              generalize hI : va_up (va_up (va_up I2 56 _) 72 _) 52 _ = I9
              have f9 : mg_f2 [52, 56, 64, 72] [] I I9 := by
                rw [← hI]
                exact mg_f2.up (mg_f2.up (mg_f2.up f3 rfl) rfl) rfl
              exact h _ _ _ ⟨(show rg (_ : Int32) _ _ by rw [f9 12 3 rfl rfl]; exact t1), (show rg (_ : Int32) _ _ by rw [f9 12 0 rfl rfl]; exact t2), (show rg (_ : Int32) _ _ by rw [f9 12 11 rfl rfl]; exact t3), (show rg (_ : Int32) _ _ by rw [f9 12 20 rfl rfl]; exact t4), (show rg (_ : Int32) _ _ by rw [f9 12 4 rfl rfl]; exact t5), (fun j => (by rw [f9 53 j rfl rfl]; exact t6 j)), (t7.kp (f9 12 24 rfl rfl) (f2_fn (c := 67) f9 rfl (fun _ => rfl)) (f2_fn (c := 68) f9 rfl (fun _ => rfl)) (f2_fn (c := 69) f9 rfl (fun _ => rfl))), ⟨(fun j => (by rw [f9 82 j rfl rfl]; exact t8.1 j)), (fun j => (by rw [f9 83 j rfl rfl]; exact t8.2 j))⟩, (fun j => (by rw [f9 59 j rfl rfl, f9 60 j rfl rfl]; exact t9 j)), ⟨(t10.1.kp (f9 12 0 rfl rfl) (f2_fn (c := 51) f9 rfl (fun _ => rfl))), (show rg (_ : Int32) _ _ by rw [f9 12 10 rfl rfl]; exact t10.2)⟩⟩ f9
            · exact h _ _ _ ⟨(show rg (_ : Int32) _ _ by rw [f3 12 3 rfl rfl]; exact t1), (show rg (_ : Int32) _ _ by rw [f3 12 0 rfl rfl]; exact t2), (show rg (_ : Int32) _ _ by rw [f3 12 11 rfl rfl]; exact t3), (show rg (_ : Int32) _ _ by rw [f3 12 20 rfl rfl]; exact t4), (show rg (_ : Int32) _ _ by rw [f3 12 4 rfl rfl]; exact t5), (fun j => (by rw [f3 53 j rfl rfl]; exact t6 j)), (t7.kp (f3 12 24 rfl rfl) (f2_fn (c := 67) f3 rfl (fun _ => rfl)) (f2_fn (c := 68) f3 rfl (fun _ => rfl)) (f2_fn (c := 69) f3 rfl (fun _ => rfl))), ⟨(fun j => (by rw [f3 82 j rfl rfl]; exact t8.1 j)), (fun j => (by rw [f3 83 j rfl rfl]; exact t8.2 j))⟩, (fun j => (by rw [f3 59 j rfl rfl, f3 60 j rfl rfl]; exact t9 j)), ⟨(t10.1.kp (f3 12 0 rfl rfl) (f2_fn (c := 51) f3 rfl (fun _ => rfl))), (show rg (_ : Int32) _ _ by rw [f3 12 10 rfl rfl]; exact t10.2)⟩⟩ f3
      · exact h _ _ _ sm mg_f2.rf
    · first | refine And.intro (fun z => absurd z (by decide)) (fun _ => ?_) | refine And.intro (fun _ => ?_) (fun z => absurd z (by decide))
      exact h _ _ _ sm mg_f2.rf
  · first | refine And.intro (fun z => absurd z (by decide)) (fun _ => ?_) | refine And.intro (fun _ => ?_) (fun z => absurd z (by decide))
    exact h _ _ _ sm mg_f2.rf

