def mr_fl (I : mv_I) : Prop := rg (I 12 24) 0 6 ∧ (∀ j, rg (I 67 j) 0 59) ∧ (∀ j, rg (I 68 j) 0 20000 ∧ rg (I 69 j) 0 2000) ∧ (∀ j : Nat, (j : Int) < (I 12 24).toInt → 1 ≤ (I 68 j).toInt ∧ 1 ≤ (I 69 j).toInt)
theorem mr_fl.kp {I I' : mv_I} (h : mr_fl I) (e4 : I' 12 24 = I 12 24) (e1 : I' 67 = I 67) (e2 : I' 68 = I 68) (e3 : I' 69 = I 69) : mr_fl I' := by
  unfold mr_fl at *
  rw [e4, e1, e2, e3]
  exact h
def mr_pt (I : mv_I) : Prop := ∀ j : Nat, (j : Int) < (I 12 0).toInt → rg (I 51 j) 1 1000
theorem mr_pt.kp {I I' : mv_I} (h : mr_pt I) (e4 : I' 12 0 = I 12 0) (e1 : I' 51 = I 51) : mr_pt I' := by
  unfold mr_pt at *
  rw [e4, e1]
  exact h
/-- what holds of the reference's ints between calls -/
def SM (I : mv_I) : Prop := rg (I 12 3) 0 51 ∧ rg (I 12 0) 0 8 ∧ rg (I 12 11) 0 100 ∧ rg (I 12 20) 0 70 ∧ rg (I 12 4) 0 60 ∧ (∀ j, rg (I 53 j) 0 7) ∧ mr_fl I ∧ ((∀ j, rg (I 82 j) (-1) 2) ∧ (∀ j, rg (I 83 j) 0 60)) ∧ (∀ j, rg (I 59 j) 0 7 ∧ rg (I 60 j) 0 7) ∧ (mr_pt I ∧ rg (I 12 10) 0 1000000)
theorem mr_lt {a n : Int32} {m : Int} (hn : 0 ≤ n.toInt) (p : 0 ≤ a ∧ a ≤ n - 1) (h : n.toInt ≤ m) : rg a 0 (m - 1) ∧ a.toInt < n.toInt := by
  obtain ⟨z1, z2⟩ := p
  have c1 : (1 : Int32).toInt = 1 := by decide
  have e : (n - 1).toInt = n.toInt - 1 := by have := mi_max n; rw [mi_sub (by omega) (by omega), c1]
  rw [mi_le] at z1 z2
  rw [e] at z2
  have := mi_l
  exact ⟨⟨by omega, by omega⟩, by omega⟩
theorem mr_nlt {a n : Int32} (hn : 0 ≤ n.toInt) (p : ¬ (0 ≤ a ∧ a ≤ n - 1)) : ¬ (0 ≤ a ∧ a < n) := by
  intro q
  obtain ⟨z1, z2⟩ := q
  have c1 : (1 : Int32).toInt = 1 := by decide
  have e : (n - 1).toInt = n.toInt - 1 := by have := mi_max n; rw [mi_sub (by omega) (by omega), c1]
  refine p ⟨z1, ?_⟩
  rw [mi_le, e]
  rw [mi_lt] at z2
  omega
theorem mr_ylt {a n : Int32} (hn : 0 ≤ n.toInt) (p : 0 ≤ a ∧ a ≤ n - 1) : 0 ≤ a ∧ a < n := ⟨p.1, mi_lt.mpr (mr_lt hn p (mi_max n)).2⟩
def sm_works (a : Int32) (I : mv_I) (r : Int32) (I' : mv_I) : Prop := (¬ (1 ≤ a ∧ a ≤ 1000) ∧ r = -1 ∧ I' = I) ∨ ((1 ≤ a ∧ a ≤ 1000) ∧ (I 12 0).toInt = 8 ∧ r = -3 ∧ I' = I) ∨ ((1 ≤ a ∧ a ≤ 1000) ∧ (I 12 0).toInt < 8 ∧ r = I 12 0 + 1 - 1 ∧ I' = (va_up (va_up I 51 (upd (I 51) (I 12 0).toNatClampNeg a)) 12 (upd (I 12) 0 (I 12 0 + 1))))
set_option maxHeartbeats 1000000 in
theorem G_works {d : Nat} (hd : 4 ≤ d) (a : Int32) {I : mv_I} {J : mv_J} {Q : mv_Q} (sm : SM I) (h : ∀ (r : Int32) (I' : mv_I) (J' : mv_J), SM I' → mg_f2 [51] [(12, 0)] I I' → sm_works a I r I' → Q (some (.inl r)) I' J') : mv_wpM mv_tab mv_sh d 82 [.inr (.inr 12), .inl a] I J Q := by
  obtain ⟨d, rfl⟩ : ∃ e, d = e + 1 := ⟨d - 1, by omega⟩
  refine (show ∃ fu9, mv_wp (mv_wpM mv_tab mv_sh d) mv_sh none tbX8_works flX8 csX8 1 (fun _ _ _ _ _ => False) Q fu9 0 [some (.inr (.inr 12)), some (.inl a)] [] I J from ?_)
  refine ⟨60, ?_⟩
  obtain ⟨t1, t2, t3, t4, t5, t6, t7, t8, t9, t10⟩ := id sm
  obtain ⟨n0, n1⟩ := id t2
  refine c_in (by omega) a 1 1000 (fun p => ?_) (fun p => ?_)
  · first | refine And.intro (fun z => absurd z (by decide)) (fun _ => ?_) | refine And.intro (fun _ => ?_) (fun z => absurd z (by decide))
    refine And.intro (fun q => ?_) (fun q => ?_)
    · have q : (I 12 0).toInt < 8 := by
        have z : ¬ (I 12 0).toInt = 8 := fun z => q (mi_eq.mpr (z.trans (by decide)))
        omega
      have B : vp_in (I 12 0) 8 := vp_in_iff.mpr ⟨by omega, by omega⟩
      have e1 := mi_inc q (by omega)
      refine And.intro B ?_
      have f : mg_f2 [51] [(12, 0)] I (va_up (va_up I 51 (upd (I 51) (I 12 0).toNatClampNeg a)) 12 (upd (I 12) 0 (I 12 0 + 1))) := mg_f2.uf (mg_f2.up mg_f2.rf rfl) rfl
      have ecl := mi_cl n0
      refine h _ (va_up (va_up I 51 (upd (I 51) (I 12 0).toNatClampNeg a)) 12 (upd (I 12) 0 (I 12 0 + 1))) _ ⟨(show rg (_ : Int32) _ _ by rw [f 12 3 rfl rfl]; exact t1), (show rg (I 12 0 + 1) 0 8 from ⟨by omega, by omega⟩), (show rg (_ : Int32) _ _ by rw [f 12 11 rfl rfl]; exact t3), (show rg (_ : Int32) _ _ by rw [f 12 20 rfl rfl]; exact t4), (show rg (_ : Int32) _ _ by rw [f 12 4 rfl rfl]; exact t5), (fun j => (by rw [f 53 j rfl rfl]; exact t6 j)), (t7.kp (f 12 24 rfl rfl) (f2_fn (c := 67) f rfl (fun _ => rfl)) (f2_fn (c := 68) f rfl (fun _ => rfl)) (f2_fn (c := 69) f rfl (fun _ => rfl))), ⟨(fun j => (by rw [f 82 j rfl rfl]; exact t8.1 j)), (fun j => (by rw [f 83 j rfl rfl]; exact t8.2 j))⟩, (fun j => (by rw [f 59 j rfl rfl, f 60 j rfl rfl]; exact t9 j)), ⟨(fun j hj => ?_), (show rg (_ : Int32) _ _ by rw [f 12 10 rfl rfl]; exact t10.2)⟩⟩ f (Or.inr (Or.inr ⟨p, q, rfl, rfl⟩))
      have hj : (j : Int) < (I 12 0 + 1).toInt := hj
      show rg (upd (I 51) (I 12 0).toNatClampNeg a j) 1 1000
      unfold upd
      by_cases z : j = (I 12 0).toNatClampNeg
      · rw [if_pos z]; exact mg_le p
      · rw [if_neg z]; exact t10.1 j (by omega)
    · exact h _ _ _ sm mg_f2.rf (Or.inr (Or.inl ⟨p, by rw [q]; decide, rfl, rfl⟩))
  · first | refine And.intro (fun z => absurd z (by decide)) (fun _ => ?_) | refine And.intro (fun _ => ?_) (fun z => absurd z (by decide))
    exact h _ _ _ sm mg_f2.rf (Or.inl ⟨p, rfl, rfl⟩)

def sm_weeks (a : Int32) (I : mv_I) (r : Int32) (I' : mv_I) : Prop := (¬ (0 ≤ a ∧ a ≤ 51 - I 12 3) ∧ r = -1 ∧ I' = I) ∨ ((0 ≤ a ∧ a ≤ 51 - I 12 3) ∧ r = I 12 3 + a ∧ I' = va_up I 12 (upd (I 12) 3 (I 12 3 + a)))
set_option maxHeartbeats 1000000 in
theorem G_weeks {d : Nat} (hd : 4 ≤ d) (a : Int32) {I : mv_I} {J : mv_J} {Q : mv_Q} (sm : SM I) (h : ∀ (r : Int32) (I' : mv_I) (J' : mv_J), SM I' → mg_f2 [] [(12, 3)] I I' → sm_weeks a I r I' → Q (some (.inl r)) I' J') : mv_wpM mv_tab mv_sh d 83 [.inr (.inr 12), .inl a] I J Q := by
  obtain ⟨d, rfl⟩ : ∃ e, d = e + 1 := ⟨d - 1, by omega⟩
  refine (show ∃ fu9, mv_wp (mv_wpM mv_tab mv_sh d) mv_sh none tbX8_weeks flX8 csX8 1 (fun _ _ _ _ _ => False) Q fu9 0 [some (.inr (.inr 12)), some (.inl a)] [] I J from ?_)
  refine ⟨60, ?_⟩
  obtain ⟨t1, t2, t3, t4, t5, t6, t7, t8, t9, t10⟩ := id sm
  obtain ⟨n0, n1⟩ := id t1
  have c51 : (51 : Int32).toInt = 51 := by decide
  have e2 : (51 - I 12 3).toInt = 51 - (I 12 3).toInt := by rw [mi_sub (by omega) (by omega), c51]
  refine c_in (by omega) a 0 51 (fun p => ?_) (fun p => ?_)
  · first | refine And.intro (fun z => absurd z (by decide)) (fun _ => ?_) | refine And.intro (fun _ => ?_) (fun z => absurd z (by decide))
    have p2 : rg a 0 51 := mg_le p
    obtain ⟨a0, a1⟩ := p2
    have e3 : (I 12 3 + a).toInt = (I 12 3).toInt + a.toInt := mi_add (by omega) (by omega)
    refine And.intro (fun q => ?_) (fun q => ?_)
    · have q2 := q
      rw [mi_le, e3, c51] at q2
      have f : mg_f2 [] [(12, 3)] I (va_up I 12 (upd (I 12) 3 (I 12 3 + a))) := mg_f2.uf mg_f2.rf rfl
      refine h _ _ _ ⟨(show rg (I 12 3 + a) 0 51 from ⟨by omega, by omega⟩), (show rg (_ : Int32) _ _ by rw [f 12 0 rfl rfl]; exact t2), (show rg (_ : Int32) _ _ by rw [f 12 11 rfl rfl]; exact t3), (show rg (_ : Int32) _ _ by rw [f 12 20 rfl rfl]; exact t4), (show rg (_ : Int32) _ _ by rw [f 12 4 rfl rfl]; exact t5), (fun j => (by rw [f 53 j rfl rfl]; exact t6 j)), (t7.kp (f 12 24 rfl rfl) (f2_fn (c := 67) f rfl (fun _ => rfl)) (f2_fn (c := 68) f rfl (fun _ => rfl)) (f2_fn (c := 69) f rfl (fun _ => rfl))), ⟨(fun j => (by rw [f 82 j rfl rfl]; exact t8.1 j)), (fun j => (by rw [f 83 j rfl rfl]; exact t8.2 j))⟩, (fun j => (by rw [f 59 j rfl rfl, f 60 j rfl rfl]; exact t9 j)), ⟨(t10.1.kp (f 12 0 rfl rfl) (f2_fn (c := 51) f rfl (fun _ => rfl))), (show rg (_ : Int32) _ _ by rw [f 12 10 rfl rfl]; exact t10.2)⟩⟩ f (Or.inr ⟨⟨p.1, by rw [mi_le, e2]; omega⟩, rfl, rfl⟩)
    · have q2 := q
      rw [mi_le, e3, c51] at q2
      exact h _ _ _ sm mg_f2.rf (Or.inl ⟨fun z => q2 (by have := z.2; rw [mi_le, e2] at this; omega), rfl, rfl⟩)
  · first | refine And.intro (fun z => absurd z (by decide)) (fun _ => ?_) | refine And.intro (fun _ => ?_) (fun z => absurd z (by decide))
    exact h _ _ _ sm mg_f2.rf (Or.inl ⟨fun z => p ⟨z.1, by have z2 := z.2; rw [mi_le, e2] at z2; rw [mi_le, c51]; omega⟩, rfl, rfl⟩)

def sm_lot (a b c : Int32) (I : mv_I) (r : Int32) (I' : mv_I) : Prop := (¬ ok_lot a b c (I 12 0) ∧ r = -1 ∧ I' = I) ∨ (ok_lot a b c (I 12 0) ∧ (I 12 4).toInt = 60 ∧ r = -3 ∧ I' = I) ∨ (ok_lot a b c (I 12 0) ∧ (I 12 4).toInt < 60 ∧ r = I 12 4 + 1 - 1 ∧ I' = (va_up (va_up (va_up (va_up (va_up I 53 (upd (I 53) (I 12 4).toNatClampNeg a)) 54 (upd (I 54) (I 12 4).toNatClampNeg b)) 55 (upd (I 55) (I 12 4).toNatClampNeg c)) 57 (upd (I 57) (I 12 4).toNatClampNeg (I 12 3))) 12 (upd (I 12) 4 (I 12 4 + 1))))
set_option maxHeartbeats 1000000 in
theorem G_lot {d : Nat} (hd : 4 ≤ d) (a b c : Int32) {I : mv_I} {J : mv_J} {Q : mv_Q} (sm : SM I) (h : ∀ (r : Int32) (I' : mv_I) (J' : mv_J), SM I' → mg_f2 [53, 54, 55, 57] [(12, 4)] I I' → sm_lot a b c I r I' → Q (some (.inl r)) I' J') : mv_wpM mv_tab mv_sh d 84 [.inr (.inr 12), .inl a, .inl b, .inl c] I J Q := by
  obtain ⟨d, rfl⟩ : ∃ e, d = e + 1 := ⟨d - 1, by omega⟩
  refine (show ∃ fu9, mv_wp (mv_wpM mv_tab mv_sh d) mv_sh none tbX8_lot flX8 csX8 1 (fun _ _ _ _ _ => False) Q fu9 0 [some (.inr (.inr 12)), some (.inl a), some (.inl b), some (.inl c)] [] I J from ?_)
  refine ⟨100, ?_⟩
  obtain ⟨t1, t2, t3, t4, t5, t6, t7, t8, t9, t10⟩ := id sm
  obtain ⟨n0, n1⟩ := id t5
  refine c8_isWorks (by omega) a (fun p1 => ?_) (fun p1 => ?_)
  · first | refine And.intro (fun z => absurd z (by decide)) (fun _ => ?_) | refine And.intro (fun _ => ?_) (fun z => absurd z (by decide))
    refine c_in (by omega) b 0 1000 (fun p2 => ?_) (fun p2 => ?_)
    · first | refine And.intro (fun z => absurd z (by decide)) (fun _ => ?_) | refine And.intro (fun _ => ?_) (fun z => absurd z (by decide))
      refine c_in (by omega) c 1 10000 (fun p3 => ?_) (fun p3 => ?_)
      · first | refine And.intro (fun z => absurd z (by decide)) (fun _ => ?_) | refine And.intro (fun _ => ?_) (fun z => absurd z (by decide))
        have ok : ok_lot a b c (I 12 0) := ⟨mr_ylt t2.1 p1, p2, p3⟩
        have ha : rg a 0 7 := (mr_lt t2.1 p1 t2.2).1
        refine And.intro (fun q => ?_) (fun q => ?_)
        · have q : (I 12 4).toInt < 60 := by
            have z : ¬ (I 12 4).toInt = 60 := fun z => q (mi_eq.mpr (z.trans (by decide)))
            omega
          have B : vp_in (I 12 4) 60 := vp_in_iff.mpr ⟨by omega, by omega⟩
          have e1 := mi_inc q (by omega)
          refine And.intro B ?_
          refine And.intro B ?_
          refine And.intro B ?_
          refine And.intro B ?_
          have f : mg_f2 [53, 54, 55, 57] [(12, 4)] I (va_up (va_up (va_up (va_up (va_up I 53 (upd (I 53) (I 12 4).toNatClampNeg a)) 54 (upd (I 54) (I 12 4).toNatClampNeg b)) 55 (upd (I 55) (I 12 4).toNatClampNeg c)) 57 (upd (I 57) (I 12 4).toNatClampNeg (I 12 3))) 12 (upd (I 12) 4 (I 12 4 + 1))) := mg_f2.uf (mg_f2.up (mg_f2.up (mg_f2.up (mg_f2.up mg_f2.rf rfl) rfl) rfl) rfl) rfl
          refine h _ (va_up (va_up (va_up (va_up (va_up I 53 (upd (I 53) (I 12 4).toNatClampNeg a)) 54 (upd (I 54) (I 12 4).toNatClampNeg b)) 55 (upd (I 55) (I 12 4).toNatClampNeg c)) 57 (upd (I 57) (I 12 4).toNatClampNeg (I 12 3))) 12 (upd (I 12) 4 (I 12 4 + 1))) _ ⟨(show rg (_ : Int32) _ _ by rw [f 12 3 rfl rfl]; exact t1), (show rg (_ : Int32) _ _ by rw [f 12 0 rfl rfl]; exact t2), (show rg (_ : Int32) _ _ by rw [f 12 11 rfl rfl]; exact t3), (show rg (_ : Int32) _ _ by rw [f 12 20 rfl rfl]; exact t4), (show rg (I 12 4 + 1) 0 60 from ⟨by omega, by omega⟩), (fun j => (show rg (upd (I 53) (I 12 4).toNatClampNeg a j) 0 7 by unfold upd; split; exact ha; exact t6 j)), (t7.kp (f 12 24 rfl rfl) (f2_fn (c := 67) f rfl (fun _ => rfl)) (f2_fn (c := 68) f rfl (fun _ => rfl)) (f2_fn (c := 69) f rfl (fun _ => rfl))), ⟨(fun j => (by rw [f 82 j rfl rfl]; exact t8.1 j)), (fun j => (by rw [f 83 j rfl rfl]; exact t8.2 j))⟩, (fun j => (by rw [f 59 j rfl rfl, f 60 j rfl rfl]; exact t9 j)), ⟨(t10.1.kp (f 12 0 rfl rfl) (f2_fn (c := 51) f rfl (fun _ => rfl))), (show rg (_ : Int32) _ _ by rw [f 12 10 rfl rfl]; exact t10.2)⟩⟩ f (Or.inr (Or.inr ⟨ok, q, rfl, rfl⟩))
        · exact h _ _ _ sm mg_f2.rf (Or.inr (Or.inl ⟨ok, by rw [q]; decide, rfl, rfl⟩))
      · first | refine And.intro (fun z => absurd z (by decide)) (fun _ => ?_) | refine And.intro (fun _ => ?_) (fun z => absurd z (by decide))
        exact h _ _ _ sm mg_f2.rf (Or.inl ⟨fun z => p3 z.2.2, rfl, rfl⟩)
    · first | refine And.intro (fun z => absurd z (by decide)) (fun _ => ?_) | refine And.intro (fun _ => ?_) (fun z => absurd z (by decide))
      exact h _ _ _ sm mg_f2.rf (Or.inl ⟨fun z => p2 z.2.1, rfl, rfl⟩)
  · first | refine And.intro (fun z => absurd z (by decide)) (fun _ => ?_) | refine And.intro (fun _ => ?_) (fun z => absurd z (by decide))
    exact h _ _ _ sm mg_f2.rf (Or.inl ⟨fun z => mr_nlt t2.1 p1 z.1, rfl, rfl⟩)

def sm_rail (a b : Int32) (I : mv_I) (r : Int32) (I' : mv_I) : Prop := (¬ ((0 ≤ a ∧ a < I 12 4) ∧ 1 ≤ b) ∧ r = -1 ∧ I' = I) ∨ (((0 ≤ a ∧ a < I 12 4) ∧ 1 ≤ b) ∧ ¬ b ≤ I 55 a.toNatClampNeg ∧ r = -2 ∧ I' = I) ∨ (((0 ≤ a ∧ a < I 12 4) ∧ 1 ≤ b) ∧ b ≤ I 55 a.toNatClampNeg ∧ r = I 55 a.toNatClampNeg - b ∧ I' = (va_up (va_up I 55 (upd (I 55) a.toNatClampNeg (I 55 a.toNatClampNeg - b))) 56 (upd (I 56) a.toNatClampNeg (I 56 a.toNatClampNeg + b))))
set_option maxHeartbeats 1000000 in
theorem G_rail {d : Nat} (hd : 4 ≤ d) (a b : Int32) {I : mv_I} {J : mv_J} {Q : mv_Q} (sm : SM I) (h : ∀ (r : Int32) (I' : mv_I) (J' : mv_J), SM I' → mg_f2 [55, 56] [] I I' → sm_rail a b I r I' → Q (some (.inl r)) I' J') : mv_wpM mv_tab mv_sh d 85 [.inr (.inr 12), .inl a, .inl b] I J Q := by
  obtain ⟨d, rfl⟩ : ∃ e, d = e + 1 := ⟨d - 1, by omega⟩
  refine (show ∃ fu9, mv_wp (mv_wpM mv_tab mv_sh d) mv_sh none tbX8_rail flX8 csX8 1 (fun _ _ _ _ _ => False) Q fu9 0 [some (.inr (.inr 12)), some (.inl a), some (.inl b)] [] I J from ?_)
  refine ⟨60, ?_⟩
  obtain ⟨t1, t2, t3, t4, t5, t6, t7, t8, t9, t10⟩ := id sm
  refine c8_isLot (by omega) a (fun p1 => ?_) (fun p1 => ?_)
  · first | refine And.intro (fun z => absurd z (by decide)) (fun _ => ?_) | refine And.intro (fun _ => ?_) (fun z => absurd z (by decide))
    have ha : rg a 0 59 := (mr_lt t5.1 p1 t5.2).1
    have p1 := mr_ylt t5.1 p1
    have B : vp_in a 60 := vp_in_iff.mpr ⟨ha.1, by have := ha.2; omega⟩
    refine And.intro (fun q1 => ?_) (fun q1 => ?_)
    · refine And.intro B ?_
      refine And.intro (fun q2 => ?_) (fun q2 => ?_)
      · refine And.intro B ?_
        refine And.intro B ?_
        refine And.intro B ?_
        refine And.intro B ?_
        refine And.intro B ?_
        have f : mg_f2 [55, 56] [] I (va_up (va_up I 55 (upd (I 55) a.toNatClampNeg (I 55 a.toNatClampNeg - b))) 56 (upd (I 56) a.toNatClampNeg (I 56 a.toNatClampNeg + b))) := mg_f2.up (mg_f2.up mg_f2.rf rfl) rfl
        refine h _ (va_up (va_up I 55 (upd (I 55) a.toNatClampNeg (I 55 a.toNatClampNeg - b))) 56 (upd (I 56) a.toNatClampNeg (I 56 a.toNatClampNeg + b))) _ ⟨(show rg (_ : Int32) _ _ by rw [f 12 3 rfl rfl]; exact t1), (show rg (_ : Int32) _ _ by rw [f 12 0 rfl rfl]; exact t2), (show rg (_ : Int32) _ _ by rw [f 12 11 rfl rfl]; exact t3), (show rg (_ : Int32) _ _ by rw [f 12 20 rfl rfl]; exact t4), (show rg (_ : Int32) _ _ by rw [f 12 4 rfl rfl]; exact t5), (fun j => (by rw [f 53 j rfl rfl]; exact t6 j)), (t7.kp (f 12 24 rfl rfl) (f2_fn (c := 67) f rfl (fun _ => rfl)) (f2_fn (c := 68) f rfl (fun _ => rfl)) (f2_fn (c := 69) f rfl (fun _ => rfl))), ⟨(fun j => (by rw [f 82 j rfl rfl]; exact t8.1 j)), (fun j => (by rw [f 83 j rfl rfl]; exact t8.2 j))⟩, (fun j => (by rw [f 59 j rfl rfl, f 60 j rfl rfl]; exact t9 j)), ⟨(t10.1.kp (f 12 0 rfl rfl) (f2_fn (c := 51) f rfl (fun _ => rfl))), (show rg (_ : Int32) _ _ by rw [f 12 10 rfl rfl]; exact t10.2)⟩⟩ f (Or.inr (Or.inr ⟨⟨p1, q1⟩, q2, ?_, rfl⟩))
        show upd (I 55) a.toNatClampNeg (I 55 a.toNatClampNeg - b) a.toNatClampNeg = _
        unfold upd
        rw [if_pos rfl]
      · exact h _ _ _ sm mg_f2.rf (Or.inr (Or.inl ⟨⟨p1, q1⟩, q2, rfl, rfl⟩))
    · exact h _ _ _ sm mg_f2.rf (Or.inl ⟨fun z => q1 z.2, rfl, rfl⟩)
  · first | refine And.intro (fun z => absurd z (by decide)) (fun _ => ?_) | refine And.intro (fun _ => ?_) (fun z => absurd z (by decide))
    exact h _ _ _ sm mg_f2.rf (Or.inl ⟨fun z => mr_nlt t5.1 p1 z.1, rfl, rfl⟩)

theorem mi_360r {a b : Int32} (ha : rg a 0 5) (hb : rg b 0 59) : vp_in (60 * a + b) 360 ∧ (60 * a + b).toInt = 60 * a.toInt + b.toInt := by
  obtain ⟨a0, a1⟩ := ha
  obtain ⟨b0, b1⟩ := hb
  have c60 : (60 : Int32).toInt = 60 := by decide
  have e1 : (60 * a).toInt = 60 * a.toInt := by rw [mi_mul (by rw [c60]; omega) (by rw [c60]; omega), c60]
  have e2 : (60 * a + b).toInt = 60 * a.toInt + b.toInt := by rw [mi_add (by rw [e1]; omega) (by rw [e1]; omega), e1]
  exact ⟨vp_in_iff.mpr ⟨by omega, by omega⟩, e2⟩
set_option maxHeartbeats 1000000 in
theorem l_inHolds {d : Nat} {a : Int32} {I : mv_I} {J : mv_J} {Q : mv_Q} (ha : rg a 0 59) (h : ∀ r : Int32, Q (some (.inl r)) I J) : ∀ (k fu : Nat) (m x : Int32), 0 ≤ x.toInt → (6 - x.toInt).toNat < k → 40 * k ≤ fu → mv_wp (mv_wpM mv_tab mv_sh d) mv_sh none tbX8_inHolds flX8 csX8 1 (fun _ _ _ _ _ => False) Q fu 4 [some (.inr (.inr 12)), some (.inl a), some (.inl m), some (.inl x)] [] I J := by
  intro k
  induction k with
  | zero => intro fu m x h0 h1 hf; omega
  | succ k ih =>
    intro fu m x h0 h1 hf
    obtain ⟨fu, rfl⟩ : ∃ z, fu = z + 40 := ⟨fu - 40, by omega⟩
    refine And.intro (fun q => ?_) (fun q => ?_)
    · exact h _
    · have qx : x.toInt < 6 := by (try simp only [mi_le, mi_lt, mi_eq] at *); have := mi_l; omega
      have e1 := mi_inc qx (by omega)
      refine And.intro (mi_360r ⟨h0, by omega⟩ ha).1 ?_
      refine And.intro ?_ trivial
      exact ih _ _ _ (by omega) (by omega) (by omega)
set_option maxHeartbeats 1000000 in
theorem r_inHolds {d : Nat} (hd : 1 ≤ d) (a : Int32) {I : mv_I} {J : mv_J} {Q : mv_Q} (ha : rg a 0 59) (h : ∀ r : Int32, Q (some (.inl r)) I J) : mv_wpM mv_tab mv_sh d 86 [.inr (.inr 12), .inl a] I J Q := by
  obtain ⟨d, rfl⟩ : ∃ e, d = e + 1 := ⟨d - 1, by omega⟩
  refine (show ∃ fu9, mv_wp (mv_wpM mv_tab mv_sh d) mv_sh none tbX8_inHolds flX8 csX8 1 (fun _ _ _ _ _ => False) Q fu9 0 [some (.inr (.inr 12)), some (.inl a), none, none] [] I J from ?_)
  refine ⟨300, ?_⟩
  refine And.intro ?_ trivial
  exact l_inHolds ha h 7 _ _ _ (by decide) (by decide) (Nat.le_of_ble_eq_true rfl)

set_option maxHeartbeats 1000000 in
theorem l_inHold {d : Nat} {a : Int32} {I : mv_I} {J : mv_J} {Q : mv_Q} (ha : rg a 0 5) (hw : rg (I 12 4) 0 60) (h : ∀ r : Int32, Q (some (.inl r)) I J) : ∀ (k fu : Nat) (m x : Int32), 0 ≤ x.toInt → ((I 12 4).toInt - x.toInt).toNat < k → 40 * k ≤ fu → mv_wp (mv_wpM mv_tab mv_sh d) mv_sh none tbX8_inHold flX8 csX8 1 (fun _ _ _ _ _ => False) Q fu 4 [some (.inr (.inr 12)), some (.inl a), some (.inl m), some (.inl x)] [] I J := by
  intro k
  induction k with
  | zero => intro fu m x h0 h1 hf; omega
  | succ k ih =>
    intro fu m x h0 h1 hf
    obtain ⟨fu, rfl⟩ : ∃ z, fu = z + 40 := ⟨fu - 40, by omega⟩
    obtain ⟨w0, w1⟩ := hw
    refine And.intro (fun q => ?_) (fun q => ?_)
    · exact h _
    · have qx : x.toInt < (I 12 4).toInt := by (try simp only [mi_le, mi_lt, mi_eq] at *); have := mi_l; omega
      have e1 := mi_incl qx
      refine And.intro (mi_360r ha ⟨h0, by omega⟩).1 ?_
      refine And.intro ?_ trivial
      exact ih _ _ _ (by omega) (by omega) (by omega)
set_option maxHeartbeats 1000000 in
theorem r_inHold {d : Nat} (hd : 1 ≤ d) (a : Int32) {I : mv_I} {J : mv_J} {Q : mv_Q} (ha : rg a 0 5) (hw : rg (I 12 4) 0 60) (h : ∀ r : Int32, Q (some (.inl r)) I J) : mv_wpM mv_tab mv_sh d 107 [.inr (.inr 12), .inl a] I J Q := by
  obtain ⟨d, rfl⟩ : ∃ e, d = e + 1 := ⟨d - 1, by omega⟩
  refine (show ∃ fu9, mv_wp (mv_wpM mv_tab mv_sh d) mv_sh none tbX8_inHold flX8 csX8 1 (fun _ _ _ _ _ => False) Q fu9 0 [some (.inr (.inr 12)), some (.inl a), none, none] [] I J from ?_)
  refine ⟨2600, ?_⟩
  refine And.intro ?_ trivial
  exact l_inHold ha hw h 61 _ _ _ (by decide) (by have := hw.2; have := mi_l; omega) (Nat.le_of_ble_eq_true rfl)

set_option maxHeartbeats 1000000 in
theorem G_told {d : Nat} (hd : 4 ≤ d) (a b : Int32) {I : mv_I} {J : mv_J} {Q : mv_Q} (sm : SM I) (h : ∀ (r : Int32), Q (some (.inl r)) I J) : mv_wpM mv_tab mv_sh d 87 [.inr (.inr 12), .inl a, .inl b] I J Q := by
  obtain ⟨d, rfl⟩ : ∃ e, d = e + 1 := ⟨d - 1, by omega⟩
  refine (show ∃ fu9, mv_wp (mv_wpM mv_tab mv_sh d) mv_sh none tbX8_told flX8 csX8 1 (fun _ _ _ _ _ => False) Q fu9 0 [some (.inr (.inr 12)), some (.inl a), some (.inl b)] [] I J from ?_)
  refine ⟨80, ?_⟩
  obtain ⟨t1, t2, t3, t4, t5, t6, t7, t8, t9, t10⟩ := id sm
  refine c8_isLot (by omega) a (fun p1 => ?_) (fun p1 => ?_)
  · first | refine And.intro (fun z => absurd z (by decide)) (fun _ => ?_) | refine And.intro (fun _ => ?_) (fun z => absurd z (by decide))
    have ha : rg a 0 59 := (mr_lt t5.1 p1 t5.2).1
    have B : vp_in a 60 := vp_in_iff.mpr ⟨ha.1, by have := ha.2; omega⟩
    refine c_in (by omega) b 0 5 (fun p2 => ?_) (fun p2 => ?_)
    · first | refine And.intro (fun z => absurd z (by decide)) (fun _ => ?_) | refine And.intro (fun _ => ?_) (fun z => absurd z (by decide))
      repeat' (first | refine And.intro (fun _ => ?_) (fun _ => ?_) | fail)
      all_goals first | exact And.intro B (h _) | exact r_inHolds (by omega) a ha (fun r => h r)
    · first | refine And.intro (fun z => absurd z (by decide)) (fun _ => ?_) | refine And.intro (fun _ => ?_) (fun z => absurd z (by decide))
      exact h _
  · first | refine And.intro (fun z => absurd z (by decide)) (fun _ => ?_) | refine And.intro (fun _ => ?_) (fun z => absurd z (by decide))
    exact h _

def sm_total (a : Int32) (I : mv_I) (r : Int32) (I' : mv_I) : Prop := (¬ (0 ≤ a ∧ a ≤ 1000000) ∧ r = -1 ∧ I' = I) ∨ ((0 ≤ a ∧ a ≤ 1000000) ∧ r = I 12 10 ∧ I' = va_up I 12 (upd (I 12) 10 a))
set_option maxHeartbeats 1000000 in
theorem G_total {d : Nat} (hd : 4 ≤ d) (a : Int32) {I : mv_I} {J : mv_J} {Q : mv_Q} (sm : SM I) (h : ∀ (r : Int32) (I' : mv_I) (J' : mv_J), SM I' → mg_f2 [] [(12, 10)] I I' → sm_total a I r I' → Q (some (.inl r)) I' J') : mv_wpM mv_tab mv_sh d 88 [.inr (.inr 12), .inl a] I J Q := by
  obtain ⟨d, rfl⟩ : ∃ e, d = e + 1 := ⟨d - 1, by omega⟩
  refine (show ∃ fu9, mv_wp (mv_wpM mv_tab mv_sh d) mv_sh none tbX8_total flX8 csX8 1 (fun _ _ _ _ _ => False) Q fu9 0 [some (.inr (.inr 12)), some (.inl a), none] [] I J from ?_)
  refine ⟨60, ?_⟩
  obtain ⟨t1, t2, t3, t4, t5, t6, t7, t8, t9, t10⟩ := id sm
  refine c_in (by omega) a 0 1000000 (fun p => ?_) (fun p => ?_)
  · first | refine And.intro (fun z => absurd z (by decide)) (fun _ => ?_) | refine And.intro (fun _ => ?_) (fun z => absurd z (by decide))
    have f : mg_f2 [] [(12, 10)] I (va_up I 12 (upd (I 12) 10 a)) := mg_f2.uf mg_f2.rf rfl
    refine h _ _ _ ⟨(show rg (_ : Int32) _ _ by rw [f 12 3 rfl rfl]; exact t1), (show rg (_ : Int32) _ _ by rw [f 12 0 rfl rfl]; exact t2), (show rg (_ : Int32) _ _ by rw [f 12 11 rfl rfl]; exact t3), (show rg (_ : Int32) _ _ by rw [f 12 20 rfl rfl]; exact t4), (show rg (_ : Int32) _ _ by rw [f 12 4 rfl rfl]; exact t5), (fun j => (by rw [f 53 j rfl rfl]; exact t6 j)), (t7.kp (f 12 24 rfl rfl) (f2_fn (c := 67) f rfl (fun _ => rfl)) (f2_fn (c := 68) f rfl (fun _ => rfl)) (f2_fn (c := 69) f rfl (fun _ => rfl))), ⟨(fun j => (by rw [f 82 j rfl rfl]; exact t8.1 j)), (fun j => (by rw [f 83 j rfl rfl]; exact t8.2 j))⟩, (fun j => (by rw [f 59 j rfl rfl, f 60 j rfl rfl]; exact t9 j)), ⟨(t10.1.kp (f 12 0 rfl rfl) (f2_fn (c := 51) f rfl (fun _ => rfl))), (show rg a 0 1000000 from mg_le p)⟩⟩ f (Or.inr ⟨p, rfl, rfl⟩)
  · first | refine And.intro (fun z => absurd z (by decide)) (fun _ => ?_) | refine And.intro (fun _ => ?_) (fun z => absurd z (by decide))
    exact h _ _ _ sm mg_f2.rf (Or.inl ⟨p, rfl, rfl⟩)

def sm_bar (a : Int32) (I : mv_I) (r : Int32) (I' : mv_I) : Prop := (¬ (0 ≤ a ∧ a ≤ 9) ∧ r = -1 ∧ I' = I) ∨ ((0 ≤ a ∧ a ≤ 9) ∧ r = I 12 32 ∧ I' = va_up I 12 (upd (I 12) 32 a))
set_option maxHeartbeats 1000000 in
theorem G_bar {d : Nat} (hd : 4 ≤ d) (a : Int32) {I : mv_I} {J : mv_J} {Q : mv_Q} (sm : SM I) (h : ∀ (r : Int32) (I' : mv_I) (J' : mv_J), SM I' → mg_f2 [] [(12, 32)] I I' → sm_bar a I r I' → Q (some (.inl r)) I' J') : mv_wpM mv_tab mv_sh d 113 [.inr (.inr 12), .inl a] I J Q := by
  obtain ⟨d, rfl⟩ : ∃ e, d = e + 1 := ⟨d - 1, by omega⟩
  refine (show ∃ fu9, mv_wp (mv_wpM mv_tab mv_sh d) mv_sh none tbX8_bar flX8 csX8 1 (fun _ _ _ _ _ => False) Q fu9 0 [some (.inr (.inr 12)), some (.inl a), none] [] I J from ?_)
  refine ⟨60, ?_⟩
  obtain ⟨t1, t2, t3, t4, t5, t6, t7, t8, t9, t10⟩ := id sm
  refine c_in (by omega) a 0 9 (fun p => ?_) (fun p => ?_)
  · first | refine And.intro (fun z => absurd z (by decide)) (fun _ => ?_) | refine And.intro (fun _ => ?_) (fun z => absurd z (by decide))
    have f : mg_f2 [] [(12, 32)] I (va_up I 12 (upd (I 12) 32 a)) := mg_f2.uf mg_f2.rf rfl
    refine h _ _ _ ⟨(show rg (_ : Int32) _ _ by rw [f 12 3 rfl rfl]; exact t1), (show rg (_ : Int32) _ _ by rw [f 12 0 rfl rfl]; exact t2), (show rg (_ : Int32) _ _ by rw [f 12 11 rfl rfl]; exact t3), (show rg (_ : Int32) _ _ by rw [f 12 20 rfl rfl]; exact t4), (show rg (_ : Int32) _ _ by rw [f 12 4 rfl rfl]; exact t5), (fun j => (by rw [f 53 j rfl rfl]; exact t6 j)), (t7.kp (f 12 24 rfl rfl) (f2_fn (c := 67) f rfl (fun _ => rfl)) (f2_fn (c := 68) f rfl (fun _ => rfl)) (f2_fn (c := 69) f rfl (fun _ => rfl))), ⟨(fun j => (by rw [f 82 j rfl rfl]; exact t8.1 j)), (fun j => (by rw [f 83 j rfl rfl]; exact t8.2 j))⟩, (fun j => (by rw [f 59 j rfl rfl, f 60 j rfl rfl]; exact t9 j)), ⟨(t10.1.kp (f 12 0 rfl rfl) (f2_fn (c := 51) f rfl (fun _ => rfl))), (show rg (_ : Int32) _ _ by rw [f 12 10 rfl rfl]; exact t10.2)⟩⟩ f (Or.inr ⟨p, rfl, rfl⟩)
  · first | refine And.intro (fun z => absurd z (by decide)) (fun _ => ?_) | refine And.intro (fun _ => ?_) (fun z => absurd z (by decide))
    exact h _ _ _ sm mg_f2.rf (Or.inl ⟨p, rfl, rfl⟩)

set_option maxHeartbeats 1000000 in
theorem r_entry {d : Nat} (hd : 1 ≤ d) (c a b n f : Int32) {I : mv_I} {J : mv_J} {Q : mv_Q} (ha : rg a 0 7) (hb : rg b 0 7) (t9 : ∀ j, rg (I 59 j) 0 7 ∧ rg (I 60 j) 0 7) (he : rg (I 12 11) 0 100) (h : ∀ (r : Int32) (I' : mv_I), mg_f2 [58, 59, 60, 61, 62] [(12, 11)] I I' → rg (I' 12 11) 0 100 → (∀ j, rg (I' 59 j) 0 7 ∧ rg (I' 60 j) 0 7) → Q (some (.inl r)) I' J) : mv_wpM mv_tab mv_sh d 89 [.inr (.inr 12), .inl c, .inl a, .inl b, .inl n, .inl f] I J Q := by
  obtain ⟨d, rfl⟩ : ∃ e, d = e + 1 := ⟨d - 1, by omega⟩
  refine (show ∃ fu9, mv_wp (mv_wpM mv_tab mv_sh d) mv_sh none tbX8_entry flX8 csX8 1 (fun _ _ _ _ _ => False) Q fu9 0 [some (.inr (.inr 12)), some (.inl c), some (.inl a), some (.inl b), some (.inl n), some (.inl f)] [] I J from ?_)
  refine ⟨80, ?_⟩
  obtain ⟨n0, n1⟩ := id he
  refine And.intro (fun q => ?_) (fun q => ?_)
  · have q : (I 12 11).toInt < 100 := by
      have z : ¬ (I 12 11).toInt = 100 := fun z => q (mi_eq.mpr (z.trans (by decide)))
      omega
    have B : vp_in (I 12 11) 100 := vp_in_iff.mpr ⟨by omega, by omega⟩
    have e1 := mi_inc q (by omega)
    refine And.intro B ?_
    refine And.intro B ?_
    refine And.intro B ?_
    refine And.intro B ?_
    refine And.intro B ?_
    refine h _ _ (by repeat (first | exact mg_f2.rf | assumption | refine mg_f2.up ?_ rfl | refine mg_f2.uf ?_ rfl)) (show rg (I 12 11 + 1) 0 100 from ⟨by omega, by omega⟩) (fun j => ⟨(show rg (upd (I 59) (I 12 11).toNatClampNeg a j) 0 7 by unfold upd; split; exact ha; exact (t9 j).1), (show rg (upd (I 60) (I 12 11).toNatClampNeg b j) 0 7 by unfold upd; split; exact hb; exact (t9 j).2)⟩)
  · exact h _ _ mg_f2.rf he t9

set_option maxHeartbeats 1000000 in
theorem G_shut {d : Nat} (hd : 4 ≤ d) (a b c : Int32) {I : mv_I} {J : mv_J} {Q : mv_Q} (sm : SM I) (h : ∀ (r : Int32) (I' : mv_I) (J' : mv_J), SM I' → mg_f2 [58, 59, 60, 61, 62] [(12, 11)] I I' → Q (some (.inl r)) I' J') : mv_wpM mv_tab mv_sh d 94 [.inr (.inr 12), .inl a, .inl b, .inl c] I J Q := by
  obtain ⟨d, rfl⟩ : ∃ e, d = e + 1 := ⟨d - 1, by omega⟩
  refine (show ∃ fu9, mv_wp (mv_wpM mv_tab mv_sh d) mv_sh none tbX8_shut flX8 csX8 1 (fun _ _ _ _ _ => False) Q fu9 0 [some (.inr (.inr 12)), some (.inl a), some (.inl b), some (.inl c)] [] I J from ?_)
  refine ⟨80, ?_⟩
  obtain ⟨t1, t2, t3, t4, t5, t6, t7, t8, t9, t10⟩ := id sm
  refine c8_isWorks (by omega) a (fun p1 => ?_) (fun p1 => ?_)
  · first | refine And.intro (fun z => absurd z (by decide)) (fun _ => ?_) | refine And.intro (fun _ => ?_) (fun z => absurd z (by decide))
    have ha : rg a 0 7 := (mr_lt t2.1 p1 t2.2).1
    refine c_in (by omega) c 0 51 (fun p2 => ?_) (fun p2 => ?_)
    · first | refine And.intro (fun z => absurd z (by decide)) (fun _ => ?_) | refine And.intro (fun _ => ?_) (fun z => absurd z (by decide))
      refine And.intro (fun q1 => ?_) (fun q1 => ?_)
      · exact r_entry (by omega) _ _ _ _ _ ha ⟨by decide, by decide⟩ t9 t3 (fun r I4 f g3 g9 => h _ _ _ ⟨(show rg (_ : Int32) _ _ by rw [f 12 3 rfl rfl]; exact t1), (show rg (_ : Int32) _ _ by rw [f 12 0 rfl rfl]; exact t2), g3, (show rg (_ : Int32) _ _ by rw [f 12 20 rfl rfl]; exact t4), (show rg (_ : Int32) _ _ by rw [f 12 4 rfl rfl]; exact t5), (fun j => (by rw [f 53 j rfl rfl]; exact t6 j)), (t7.kp (f 12 24 rfl rfl) (f2_fn (c := 67) f rfl (fun _ => rfl)) (f2_fn (c := 68) f rfl (fun _ => rfl)) (f2_fn (c := 69) f rfl (fun _ => rfl))), ⟨(fun j => (by rw [f 82 j rfl rfl]; exact t8.1 j)), (fun j => (by rw [f 83 j rfl rfl]; exact t8.2 j))⟩, g9, ⟨(t10.1.kp (f 12 0 rfl rfl) (f2_fn (c := 51) f rfl (fun _ => rfl))), (show rg (_ : Int32) _ _ by rw [f 12 10 rfl rfl]; exact t10.2)⟩⟩ f)
      · exact r_entry (by omega) _ _ _ _ _ ha ⟨by decide, by decide⟩ t9 t3 (fun r I4 f g3 g9 => h _ _ _ ⟨(show rg (_ : Int32) _ _ by rw [f 12 3 rfl rfl]; exact t1), (show rg (_ : Int32) _ _ by rw [f 12 0 rfl rfl]; exact t2), g3, (show rg (_ : Int32) _ _ by rw [f 12 20 rfl rfl]; exact t4), (show rg (_ : Int32) _ _ by rw [f 12 4 rfl rfl]; exact t5), (fun j => (by rw [f 53 j rfl rfl]; exact t6 j)), (t7.kp (f 12 24 rfl rfl) (f2_fn (c := 67) f rfl (fun _ => rfl)) (f2_fn (c := 68) f rfl (fun _ => rfl)) (f2_fn (c := 69) f rfl (fun _ => rfl))), ⟨(fun j => (by rw [f 82 j rfl rfl]; exact t8.1 j)), (fun j => (by rw [f 83 j rfl rfl]; exact t8.2 j))⟩, g9, ⟨(t10.1.kp (f 12 0 rfl rfl) (f2_fn (c := 51) f rfl (fun _ => rfl))), (show rg (_ : Int32) _ _ by rw [f 12 10 rfl rfl]; exact t10.2)⟩⟩ f)
    · first | refine And.intro (fun z => absurd z (by decide)) (fun _ => ?_) | refine And.intro (fun _ => ?_) (fun z => absurd z (by decide))
      exact h _ _ _ sm mg_f2.rf
  · first | refine And.intro (fun z => absurd z (by decide)) (fun _ => ?_) | refine And.intro (fun _ => ?_) (fun z => absurd z (by decide))
    exact h _ _ _ sm mg_f2.rf

set_option maxHeartbeats 1000000 in
theorem l_risOpen {d : Nat} {w a n : Int32} {I : mv_I} {J : mv_J} {Q : mv_Q} (hn : rg n 0 100) (h : ∀ r : Int32, (r = 0 ∨ r = 1) → Q (some (.inl r)) I J) : ∀ (k fu : Nat) (la x : Int32) (c : Option mv_V), 0 ≤ x.toInt → la.toInt < 100 → (n.toInt - x.toInt).toNat < k → 80 * k ≤ fu → mv_wp (mv_wpM mv_tab mv_sh d) mv_sh none tbX8_isOpen flX8 csX8 2 (fun _ _ _ _ _ => False) Q fu 6 [some (.inr (.inr 12)), some (.inl w), some (.inl a), some (.inl n), some (.inl la), some (.inl x), c] [] I J := by
  intro k
  induction k with
  | zero => intro fu la x c h0 h1 h2 hf; omega
  | succ k ih =>
    intro fu la x c h0 h1 h2 hf
    obtain ⟨fu, rfl⟩ : ∃ z, fu = z + 80 := ⟨fu - 80, by omega⟩
    obtain ⟨hn0, hn1⟩ := hn
    refine And.intro (fun q => ?_) (fun q => ?_)
    · refine And.intro (fun q2 => ?_) (fun q2 => ?_)
      · exact And.intro (Or.inr rfl) (h _ (Or.inr rfl))
      · have Bl : vp_in la 100 := vp_in_iff.mpr ⟨by (try simp only [mi_le, mi_lt, mi_eq] at *); have := mi_l; omega, by omega⟩
        refine And.intro Bl ?_
        refine And.intro (fun _ => ?_) (fun _ => ?_)
        · exact And.intro (Or.inl rfl) (h _ (Or.inl rfl))
        · exact And.intro (Or.inr rfl) (h _ (Or.inr rfl))
    · have qx : x.toInt < n.toInt := by (try simp only [mi_le, mi_lt, mi_eq] at *); have := mi_l; omega
      have e1 := mi_incl qx
      have B : vp_in x 100 := vp_in_iff.mpr ⟨by omega, by omega⟩
      have N0 : ∀ (fu : Nat) (c : Option mv_V), 80 * k ≤ fu → mv_wp (mv_wpM mv_tab mv_sh d) mv_sh none tbX8_isOpen flX8 csX8 2 (fun _ _ _ _ _ => False) Q fu 6 [some (.inr (.inr 12)), some (.inl w), some (.inl a), some (.inl n), some (.inl la), some (.inl (x + 1)), c] [] I J := fun fu c hf => ih _ _ _ _ (by omega) h1 (by omega) hf
      have N1 : ∀ (fu : Nat) (c : Option mv_V), 80 * k ≤ fu → mv_wp (mv_wpM mv_tab mv_sh d) mv_sh none tbX8_isOpen flX8 csX8 2 (fun _ _ _ _ _ => False) Q fu 6 [some (.inr (.inr 12)), some (.inl w), some (.inl a), some (.inl n), some (.inl x), some (.inl (x + 1)), c] [] I J := fun fu c hf => ih _ _ _ _ (by omega) (by omega) (by omega) hf
      refine And.intro B ?_
      refine And.intro (fun _ => ?_) (fun _ => ?_)
      · refine And.intro (fun _ => ?_) (fun z => absurd rfl z)
        refine And.intro ?_ trivial
        exact N0 _ _ (by omega)
      · refine And.intro B ?_
        refine And.intro (fun _ => ?_) (fun _ => ?_)
        · refine And.intro (fun _ => ?_) (fun z => absurd rfl z)
          refine And.intro ?_ trivial
          exact N0 _ _ (by omega)
        · refine And.intro B ?_
          refine And.intro (fun _ => ?_) (fun _ => ?_)
          · refine And.intro (fun _ => ?_) (fun z => absurd rfl z)
            refine And.intro ?_ trivial
            exact N0 _ _ (by omega)
          · refine And.intro (fun z => absurd z (by decide)) (fun _ => ?_)
            refine And.intro (fun q2 => ?_) (fun q2 => ?_)
            · refine And.intro ?_ trivial
              exact N1 _ _ (by omega)
            · have Bl : vp_in la 100 := vp_in_iff.mpr ⟨by (try simp only [mi_le, mi_lt, mi_eq] at *); have := mi_l; omega, by omega⟩
              refine And.intro B ?_
              refine And.intro Bl ?_
              refine And.intro (fun _ => ?_) (fun _ => ?_)
              · refine And.intro ?_ trivial
                exact N0 _ _ (by omega)
              · refine And.intro ?_ trivial
                exact N1 _ _ (by omega)
set_option maxHeartbeats 1000000 in
theorem r_isOpen {d : Nat} (hd : 1 ≤ d) (w a n : Int32) {I : mv_I} {J : mv_J} {Q : mv_Q} (hn : rg n 0 100) (h : ∀ r : Int32, (r = 0 ∨ r = 1) → Q (some (.inl r)) I J) : mv_wpM mv_tab mv_sh d 90 [.inr (.inr 12), .inl w, .inl a, .inl n] I J Q := by
  obtain ⟨d, rfl⟩ : ∃ e, d = e + 1 := ⟨d - 1, by omega⟩
  refine (show ∃ fu9, mv_wp (mv_wpM mv_tab mv_sh d) mv_sh none tbX8_isOpen flX8 csX8 2 (fun _ _ _ _ _ => False) Q fu9 0 [some (.inr (.inr 12)), some (.inl w), some (.inl a), some (.inl n), none, none, none] [] I J from ?_)
  refine ⟨9000, ?_⟩
  refine And.intro ?_ trivial
  exact l_risOpen hn h 101 _ _ _ _ (by decide) (by decide) (by obtain ⟨hn0, hn1⟩ := hn; have := mi_l; omega) (Nat.le_of_ble_eq_true rfl)

set_option maxHeartbeats 1000000 in
theorem G_open {d : Nat} (hd : 5 ≤ d) (a b c : Int32) {I : mv_I} {J : mv_J} {Q : mv_Q} (sm : SM I) (h : ∀ (r : Int32), Q (some (.inl r)) I J) : mv_wpM mv_tab mv_sh d 96 [.inr (.inr 12), .inl a, .inl b, .inl c] I J Q := by
  obtain ⟨d, rfl⟩ : ∃ e, d = e + 1 := ⟨d - 1, by omega⟩
  refine (show ∃ fu9, mv_wp (mv_wpM mv_tab mv_sh d) mv_sh none tbX8_open flX8 csX8 1 (fun _ _ _ _ _ => False) Q fu9 0 [some (.inr (.inr 12)), some (.inl a), some (.inl b), some (.inl c)] [] I J from ?_)
  refine ⟨60, ?_⟩
  obtain ⟨t1, t2, t3, t4, t5, t6, t7, t8, t9, t10⟩ := id sm
  refine c8_isAsOf (by omega) a b c (fun p => ?_) (fun p => ?_)
  · first | refine And.intro (fun z => absurd z (by decide)) (fun _ => ?_) | refine And.intro (fun _ => ?_) (fun z => absurd z (by decide))
    refine r_isOpen (by omega) a b c ⟨(mg_le p.2.2).1, Int.le_trans (mg_le p.2.2).2 t3.2⟩ (fun r hr => ?_)
    refine And.intro (fun q1 => ?_) (fun q1 => ?_)
    · exact h _
    · exact h _
  · first | refine And.intro (fun z => absurd z (by decide)) (fun _ => ?_) | refine And.intro (fun _ => ?_) (fun z => absurd z (by decide))
    exact h _

def sm_ship (a b c e f : Int32) (I : mv_I) (r : Int32) (I' : mv_I) : Prop := (¬ ok_ship a b c e f ∧ r = -1 ∧ I' = I) ∨ (ok_ship a b c e f ∧ (I 12 24).toInt = 6 ∧ r = -3 ∧ I' = I) ∨ (ok_ship a b c e f ∧ (I 12 24).toInt < 6 ∧ r = I 12 24 + 1 - 1 ∧ I' = (va_up (va_up (va_up (va_up (va_up (va_up I 67 (upd (I 67) (I 12 24).toNatClampNeg a)) 68 (upd (I 68) (I 12 24).toNatClampNeg b)) 69 (upd (I 69) (I 12 24).toNatClampNeg c)) 70 (upd (I 70) (I 12 24).toNatClampNeg e)) 71 (upd (I 71) (I 12 24).toNatClampNeg f)) 12 (upd (I 12) 24 (I 12 24 + 1))))
theorem mr_fl_ship {I : mv_I} (h : mr_fl I) {a b c e f : Int32} (ok : ok_ship a b c e f) (q : (I 12 24).toInt < 6) : mr_fl (va_up (va_up (va_up (va_up (va_up (va_up I 67 (upd (I 67) (I 12 24).toNatClampNeg a)) 68 (upd (I 68) (I 12 24).toNatClampNeg b)) 69 (upd (I 69) (I 12 24).toNatClampNeg c)) 70 (upd (I 70) (I 12 24).toNatClampNeg e)) 71 (upd (I 71) (I 12 24).toNatClampNeg f)) 12 (upd (I 12) 24 (I 12 24 + 1))) := by
  obtain ⟨f1, f2, f3, f4⟩ := h
  obtain ⟨o1, o2, o3, o4, o5⟩ := ok
  have o1 : rg a 0 59 := mg_le o1
  have o2 : rg b 1 20000 := mg_le o2
  have o3 : rg c 1 2000 := mg_le o3
  have e1 := mi_inc q (by omega)
  have ecl := mi_cl f1.1
  refine ⟨(show rg (I 12 24 + 1) 0 6 from ⟨by have := f1.1; omega, by omega⟩), fun j => (show rg (upd (I 67) (I 12 24).toNatClampNeg a j) 0 59 from ?_), fun j => ⟨(show rg (upd (I 68) (I 12 24).toNatClampNeg b j) 0 20000 from ?_), (show rg (upd (I 69) (I 12 24).toNatClampNeg c j) 0 2000 from ?_)⟩, fun j hj => ⟨(show 1 ≤ (upd (I 68) (I 12 24).toNatClampNeg b j).toInt from ?_), (show 1 ≤ (upd (I 69) (I 12 24).toNatClampNeg c j).toInt from ?_)⟩⟩
  · unfold upd; split; exact o1; exact f2 j
  · unfold upd; split; exact ⟨by have := o2.1; omega, o2.2⟩; exact (f3 j).1
  · unfold upd; split; exact ⟨by have := o3.1; omega, o3.2⟩; exact (f3 j).2
  all_goals
    have hj : (j : Int) < (I 12 24 + 1).toInt := hj
    unfold upd
    by_cases z : j = (I 12 24).toNatClampNeg
    · rw [if_pos z]; first | exact o2.1 | exact o3.1
    · rw [if_neg z]
      have z2 := f4 j (by omega)
      first | exact z2.1 | exact z2.2
set_option maxHeartbeats 1000000 in
theorem G_ship {d : Nat} (hd : 4 ≤ d) (a b c e f : Int32) {I : mv_I} {J : mv_J} {Q : mv_Q} (sm : SM I) (h : ∀ (r : Int32) (I' : mv_I) (J' : mv_J), SM I' → mg_f2 [67, 68, 69, 70, 71] [(12, 24)] I I' → sm_ship a b c e f I r I' → Q (some (.inl r)) I' J') : mv_wpM mv_tab mv_sh d 106 [.inr (.inr 12), .inl a, .inl b, .inl c, .inl e, .inl f] I J Q := by
  obtain ⟨d, rfl⟩ : ∃ e, d = e + 1 := ⟨d - 1, by omega⟩
  refine (show ∃ fu9, mv_wp (mv_wpM mv_tab mv_sh d) mv_sh none tbX8_ship flX8 csX8 1 (fun _ _ _ _ _ => False) Q fu9 0 [some (.inr (.inr 12)), some (.inl a), some (.inl b), some (.inl c), some (.inl e), some (.inl f)] [] I J from ?_)
  refine ⟨120, ?_⟩
  obtain ⟨t1, t2, t3, t4, t5, t6, t7, t8, t9, t10⟩ := id sm
  obtain ⟨n0, n1⟩ := id t7.1
  refine c_in (by omega) a 0 59 (fun p1 => ?_) (fun p1 => ?_)
  · first | refine And.intro (fun z => absurd z (by decide)) (fun _ => ?_) | refine And.intro (fun _ => ?_) (fun z => absurd z (by decide))
    refine c_in (by omega) b 1 20000 (fun p2 => ?_) (fun p2 => ?_)
    · first | refine And.intro (fun z => absurd z (by decide)) (fun _ => ?_) | refine And.intro (fun _ => ?_) (fun z => absurd z (by decide))
      refine c_in (by omega) c 1 2000 (fun p3 => ?_) (fun p3 => ?_)
      · first | refine And.intro (fun z => absurd z (by decide)) (fun _ => ?_) | refine And.intro (fun _ => ?_) (fun z => absurd z (by decide))
        refine c_in (by omega) e 0 30 (fun p4 => ?_) (fun p4 => ?_)
        · first | refine And.intro (fun z => absurd z (by decide)) (fun _ => ?_) | refine And.intro (fun _ => ?_) (fun z => absurd z (by decide))
          refine c_in (by omega) f 0 100 (fun p5 => ?_) (fun p5 => ?_)
          · first | refine And.intro (fun z => absurd z (by decide)) (fun _ => ?_) | refine And.intro (fun _ => ?_) (fun z => absurd z (by decide))
            have ok : ok_ship a b c e f := ⟨p1, p2, p3, p4, p5⟩
            refine And.intro (fun q => ?_) (fun q => ?_)
            · have q : (I 12 24).toInt < 6 := by
                have z : ¬ (I 12 24).toInt = 6 := fun z => q (mi_eq.mpr (z.trans (by decide)))
                omega
              have B : vp_in (I 12 24) 6 := vp_in_iff.mpr ⟨by omega, by omega⟩
              have e1 := mi_inc q (by omega)
              refine And.intro B ?_
              refine And.intro B ?_
              refine And.intro B ?_
              refine And.intro B ?_
              refine And.intro B ?_
              have g : mg_f2 [67, 68, 69, 70, 71] [(12, 24)] I (va_up (va_up (va_up (va_up (va_up (va_up I 67 (upd (I 67) (I 12 24).toNatClampNeg a)) 68 (upd (I 68) (I 12 24).toNatClampNeg b)) 69 (upd (I 69) (I 12 24).toNatClampNeg c)) 70 (upd (I 70) (I 12 24).toNatClampNeg e)) 71 (upd (I 71) (I 12 24).toNatClampNeg f)) 12 (upd (I 12) 24 (I 12 24 + 1))) := mg_f2.uf (mg_f2.up (mg_f2.up (mg_f2.up (mg_f2.up (mg_f2.up mg_f2.rf rfl) rfl) rfl) rfl) rfl) rfl
              exact h _ (va_up (va_up (va_up (va_up (va_up (va_up I 67 (upd (I 67) (I 12 24).toNatClampNeg a)) 68 (upd (I 68) (I 12 24).toNatClampNeg b)) 69 (upd (I 69) (I 12 24).toNatClampNeg c)) 70 (upd (I 70) (I 12 24).toNatClampNeg e)) 71 (upd (I 71) (I 12 24).toNatClampNeg f)) 12 (upd (I 12) 24 (I 12 24 + 1))) _ ⟨(show rg (_ : Int32) _ _ by rw [g 12 3 rfl rfl]; exact t1), (show rg (_ : Int32) _ _ by rw [g 12 0 rfl rfl]; exact t2), (show rg (_ : Int32) _ _ by rw [g 12 11 rfl rfl]; exact t3), (show rg (_ : Int32) _ _ by rw [g 12 20 rfl rfl]; exact t4), (show rg (_ : Int32) _ _ by rw [g 12 4 rfl rfl]; exact t5), (fun j => (by rw [g 53 j rfl rfl]; exact t6 j)), (mr_fl_ship t7 ok q), ⟨(fun j => (by rw [g 82 j rfl rfl]; exact t8.1 j)), (fun j => (by rw [g 83 j rfl rfl]; exact t8.2 j))⟩, (fun j => (by rw [g 59 j rfl rfl, g 60 j rfl rfl]; exact t9 j)), ⟨(t10.1.kp (g 12 0 rfl rfl) (f2_fn (c := 51) g rfl (fun _ => rfl))), (show rg (_ : Int32) _ _ by rw [g 12 10 rfl rfl]; exact t10.2)⟩⟩ g (Or.inr (Or.inr ⟨ok, q, rfl, rfl⟩))
            · exact h _ _ _ sm mg_f2.rf (Or.inr (Or.inl ⟨ok, by rw [q]; decide, rfl, rfl⟩))
          · first | refine And.intro (fun z => absurd z (by decide)) (fun _ => ?_) | refine And.intro (fun _ => ?_) (fun z => absurd z (by decide))
            exact h _ _ _ sm mg_f2.rf (Or.inl ⟨fun z => p5 z.2.2.2.2, rfl, rfl⟩)
        · first | refine And.intro (fun z => absurd z (by decide)) (fun _ => ?_) | refine And.intro (fun _ => ?_) (fun z => absurd z (by decide))
          exact h _ _ _ sm mg_f2.rf (Or.inl ⟨fun z => p4 z.2.2.2.1, rfl, rfl⟩)
      · first | refine And.intro (fun z => absurd z (by decide)) (fun _ => ?_) | refine And.intro (fun _ => ?_) (fun z => absurd z (by decide))
        exact h _ _ _ sm mg_f2.rf (Or.inl ⟨fun z => p3 z.2.2.1, rfl, rfl⟩)
    · first | refine And.intro (fun z => absurd z (by decide)) (fun _ => ?_) | refine And.intro (fun _ => ?_) (fun z => absurd z (by decide))
      exact h _ _ _ sm mg_f2.rf (Or.inl ⟨fun z => p2 z.2.1, rfl, rfl⟩)
  · first | refine And.intro (fun z => absurd z (by decide)) (fun _ => ?_) | refine And.intro (fun _ => ?_) (fun z => absurd z (by decide))
    exact h _ _ _ sm mg_f2.rf (Or.inl ⟨fun z => p1 z.1, rfl, rfl⟩)

set_option maxHeartbeats 1000000 in
theorem G_held {d : Nat} (hd : 4 ≤ d) (a b : Int32) {I : mv_I} {J : mv_J} {Q : mv_Q} (sm : SM I) (h : ∀ (r : Int32), Q (some (.inl r)) I J) : mv_wpM mv_tab mv_sh d 109 [.inr (.inr 12), .inl a, .inl b] I J Q := by
  obtain ⟨d, rfl⟩ : ∃ e, d = e + 1 := ⟨d - 1, by omega⟩
  refine (show ∃ fu9, mv_wp (mv_wpM mv_tab mv_sh d) mv_sh none tbX8_held flX8 csX8 1 (fun _ _ _ _ _ => False) Q fu9 0 [some (.inr (.inr 12)), some (.inl a), some (.inl b)] [] I J from ?_)
  refine ⟨60, ?_⟩
  obtain ⟨t1, t2, t3, t4, t5, t6, t7, t8, t9, t10⟩ := id sm
  refine c8_isShip (by omega) a (fun p1 => ?_) (fun p1 => ?_)
  · first | refine And.intro (fun z => absurd z (by decide)) (fun _ => ?_) | refine And.intro (fun _ => ?_) (fun z => absurd z (by decide))
    have ha : rg a 0 5 := (mr_lt t7.1.1 p1 t7.1.2).1
    refine And.intro (fun q1 => ?_) (fun q1 => ?_)
    · refine And.intro (fun q2 => absurd q1 q2) (fun q2 => ?_)
      exact r_inHold (by omega) a ha t5 (fun r => h r)
    · refine c8_isLot (by omega) b (fun p2 => ?_) (fun p2 => ?_)
      · first | refine And.intro (fun z => absurd z (by decide)) (fun _ => ?_) | refine And.intro (fun _ => ?_) (fun z => absurd z (by decide))
        have hb : rg b 0 59 := (mr_lt t5.1 p2 t5.2).1
        refine And.intro (fun q2 => ?_) (fun q2 => absurd q2 q1)
        exact And.intro (mi_360r ha hb).1 (h _)
      · first | refine And.intro (fun z => absurd z (by decide)) (fun _ => ?_) | refine And.intro (fun _ => ?_) (fun z => absurd z (by decide))
        exact h _
  · first | refine And.intro (fun z => absurd z (by decide)) (fun _ => ?_) | refine And.intro (fun _ => ?_) (fun z => absurd z (by decide))
    exact h _

set_option maxHeartbeats 1000000 in
theorem l_rgrade {d : Nat} {a s : Int32} {I : mv_I} {J : mv_J} {Q : mv_Q} (ha : rg a 0 5) (hw : rg (I 12 4) 0 60) (h : ∀ r : Int32, Q (some (.inl r)) I J) : ∀ (k fu : Nat) (m x : Int32), 0 ≤ x.toInt → ((I 12 4).toInt - x.toInt).toNat < k → 60 * k ≤ fu → mv_wp (mv_wpM mv_tab mv_sh d) mv_sh none tbX8_grade flX8 csX8 1 (fun _ _ _ _ _ => False) Q fu 21 [some (.inr (.inr 12)), some (.inl a), some (.inl s), some (.inl m), some (.inl x)] [] I J := by
  intro k
  induction k with
  | zero => intro fu m x h0 h1 hf; omega
  | succ k ih =>
    intro fu m x h0 h1 hf
    obtain ⟨fu, rfl⟩ : ∃ z, fu = z + 60 := ⟨fu - 60, by omega⟩
    obtain ⟨hn0, hn1⟩ := id hw
    refine And.intro (fun q => ?_) (fun q => ?_)
    · refine And.intro (fun q2 => ?_) (fun q2 => ?_)
      · exact And.intro q2 (h _)
      · exact h _
    · have qx : x.toInt < (I 12 4).toInt := by (try simp only [mi_le, mi_lt, mi_eq] at *); have := mi_l; omega
      have e1 := mi_incl qx
      refine And.intro (vp_in_iff.mpr ⟨by omega, by omega⟩) ?_
      refine And.intro (mi_360r ha ⟨h0, by omega⟩).1 ?_
      refine And.intro ?_ trivial
      exact ih _ _ _ (by omega) (by omega) (by omega)
set_option maxHeartbeats 1000000 in
theorem G_grade {d : Nat} (hd : 4 ≤ d) (a : Int32) {I : mv_I} {J : mv_J} {Q : mv_Q} (sm : SM I) (h : ∀ (r : Int32), Q (some (.inl r)) I J) : mv_wpM mv_tab mv_sh d 110 [.inr (.inr 12), .inl a] I J Q := by
  obtain ⟨d, rfl⟩ : ∃ e, d = e + 1 := ⟨d - 1, by omega⟩
  refine (show ∃ fu9, mv_wp (mv_wpM mv_tab mv_sh d) mv_sh none tbX8_grade flX8 csX8 1 (fun _ _ _ _ _ => False) Q fu9 0 [some (.inr (.inr 12)), some (.inl a), none, none, none] [] I J from ?_)
  refine ⟨3800, ?_⟩
  obtain ⟨t1, t2, t3, t4, t5, t6, t7, t8, t9, t10⟩ := id sm
  refine c8_isShip (by omega) a (fun p1 => ?_) (fun p1 => ?_)
  · first | refine And.intro (fun z => absurd z (by decide)) (fun _ => ?_) | refine And.intro (fun _ => ?_) (fun z => absurd z (by decide))
    have ha : rg a 0 5 := (mr_lt t7.1.1 p1 t7.1.2).1
    refine r_inHold (by omega) a ha t5 (fun r => ?_)
    refine And.intro ?_ trivial
    exact l_rgrade ha t5 h 61 _ _ _ (by decide) (by have := t5.2; have := mi_l; omega) (Nat.le_of_ble_eq_true rfl)
  · first | refine And.intro (fun z => absurd z (by decide)) (fun _ => ?_) | refine And.intro (fun _ => ?_) (fun z => absurd z (by decide))
    exact h _

set_option maxHeartbeats 1000000 in
theorem G_laid {d : Nat} (hd : 4 ≤ d) (a b : Int32) {I : mv_I} {J : mv_J} {Q : mv_Q} (sm : SM I) (h : ∀ (r : Int32), Q (some (.inl r)) I J) : mv_wpM mv_tab mv_sh d 121 [.inr (.inr 12), .inl a, .inl b] I J Q := by
  obtain ⟨d, rfl⟩ : ∃ e, d = e + 1 := ⟨d - 1, by omega⟩
  refine (show ∃ fu9, mv_wp (mv_wpM mv_tab mv_sh d) mv_sh none tbX8_laid flX8 csX8 1 (fun _ _ _ _ _ => False) Q fu9 0 [some (.inr (.inr 12)), some (.inl a), some (.inl b)] [] I J from ?_)
  refine ⟨80, ?_⟩
  obtain ⟨t1, t2, t3, t4, t5, t6, t7, t8, t9, t10⟩ := id sm
  refine And.intro (fun q1 => ?_) (fun q1 => ?_)
  · exact h _
  · refine c8_isShip (by omega) a (fun p1 => ?_) (fun p1 => ?_)
    · first | refine And.intro (fun z => absurd z (by decide)) (fun _ => ?_) | refine And.intro (fun _ => ?_) (fun z => absurd z (by decide))
      have ha : rg a 0 5 := (mr_lt t7.1.1 p1 t7.1.2).1
      have B : vp_in a 6 := vp_in_iff.mpr ⟨ha.1, by have := ha.2; omega⟩
      refine c_in (by omega) b 0 3 (fun p2 => ?_) (fun p2 => ?_)
      · first | refine And.intro (fun z => absurd z (by decide)) (fun _ => ?_) | refine And.intro (fun _ => ?_) (fun z => absurd z (by decide))
        refine And.intro B ?_
        repeat' (first | refine And.intro (fun _ => ?_) (fun _ => ?_) | fail)
        all_goals first | exact And.intro B (h _) | exact h _
      · first | refine And.intro (fun z => absurd z (by decide)) (fun _ => ?_) | refine And.intro (fun _ => ?_) (fun z => absurd z (by decide))
        exact h _
    · first | refine And.intro (fun z => absurd z (by decide)) (fun _ => ?_) | refine And.intro (fun _ => ?_) (fun z => absurd z (by decide))
      exact h _

set_option maxHeartbeats 1000000 in
theorem l_rcount {d : Nat} (hd : 1 ≤ d) {a : Int32} {I : mv_I} {J : mv_J} {Q : mv_Q} (hw : rg (I 12 4) 0 60) (h : ∀ r : Int32, Q (some (.inl r)) I J) : ∀ (k fu : Nat) (m x : Int32), 0 ≤ x.toInt → ((I 12 4).toInt - x.toInt).toNat < k → 60 * k ≤ fu → mv_wp (mv_wpM mv_tab mv_sh d) mv_sh none tbX8_count flX8 csX8 1 (fun _ _ _ _ _ => False) Q fu 4 [some (.inr (.inr 12)), some (.inl a), some (.inl m), some (.inl x)] [] I J := by
  intro k
  induction k with
  | zero => intro fu m x h0 h1 hf; omega
  | succ k ih =>
    intro fu m x h0 h1 hf
    obtain ⟨fu, rfl⟩ : ∃ z, fu = z + 60 := ⟨fu - 60, by omega⟩
    obtain ⟨hn0, hn1⟩ := id hw
    refine And.intro (fun q => ?_) (fun q => ?_)
    · exact And.intro (fun _ => h _) (And.intro (fun _ => h _) (And.intro (fun _ => h _) (And.intro (fun _ => h _) (And.intro (fun _ => h _) (And.intro (fun _ => h _) (And.intro (fun _ => h _) (And.intro (fun _ => h _) (And.intro (fun _ => h _) trivial))))))))
    · have qx : x.toInt < (I 12 4).toInt := by (try simp only [mi_le, mi_lt, mi_eq] at *); have := mi_l; omega
      have e1 := mi_incl qx
      have B : vp_in x 60 := vp_in_iff.mpr ⟨by omega, by omega⟩
      have N : ∀ (fu : Nat) (m : Int32), 60 * k ≤ fu → mv_wp (mv_wpM mv_tab mv_sh d) mv_sh none tbX8_count flX8 csX8 1 (fun _ _ _ _ _ => False) Q fu 4 [some (.inr (.inr 12)), some (.inl a), some (.inl m), some (.inl (x + 1))] [] I J := fun fu m hf => ih _ _ _ (by omega) (by omega) hf
      refine And.intro (fun _ => ?_) (fun _ => ?_)
      · refine And.intro (fun _ => ?_) (fun _ => ?_)
        · refine And.intro (fun _ => ?_) (fun _ => ?_)
          · refine And.intro ?_ trivial
            exact N _ _ (by omega)
          · refine r_inHolds (by omega) x ⟨h0, by omega⟩ (fun r => ?_)
            refine And.intro ?_ trivial
            exact N _ _ (by omega)
        · refine And.intro B ?_
          refine And.intro ?_ trivial
          exact N _ _ (by omega)
      · refine And.intro B ?_
        refine And.intro ?_ trivial
        exact N _ _ (by omega)
set_option maxHeartbeats 1000000 in
theorem G_count {d : Nat} (hd : 4 ≤ d) (a : Int32) {I : mv_I} {J : mv_J} {Q : mv_Q} (sm : SM I) (h : ∀ (r : Int32), Q (some (.inl r)) I J) : mv_wpM mv_tab mv_sh d 122 [.inr (.inr 12), .inl a] I J Q := by
  obtain ⟨d, rfl⟩ : ∃ e, d = e + 1 := ⟨d - 1, by omega⟩
  refine (show ∃ fu9, mv_wp (mv_wpM mv_tab mv_sh d) mv_sh none tbX8_count flX8 csX8 1 (fun _ _ _ _ _ => False) Q fu9 0 [some (.inr (.inr 12)), some (.inl a), none, none] [] I J from ?_)
  refine ⟨3800, ?_⟩
  obtain ⟨t1, t2, t3, t4, t5, t6, t7, t8, t9, t10⟩ := id sm
  refine And.intro ?_ trivial
  exact l_rcount (by omega) t5 h 61 _ _ _ (by decide) (by have := t5.2; have := mi_l; omega) (Nat.le_of_ble_eq_true rfl)

