/-- a new object's ints, of the system -/
def mv_fr (I : mv_I) : Prop := I 0 7 = 0 ∧ I 1 2 = 0 ∧ I 1 3 = 0 ∧ I 1 9 = 0 ∧ I 2 2 = 0 ∧ I 3 6 = 0 ∧ I 4 7 = 0 ∧ I 5 1 = 5 ∧ I 6 4 = 0 ∧ (∀ j, j < 60 → I 38 j = -1) ∧ I 8 1 = -1 ∧ I 9 1 = -1 ∧ I 10 1 = -1 ∧ I 11 1 = -1
/-- of the reference -/
def mv_fm (I : mv_I) : Prop := I 12 0 = 0 ∧ I 12 3 = 0 ∧ I 12 4 = 0 ∧ I 12 10 = 0 ∧ I 12 11 = 0 ∧ I 12 20 = 0 ∧ I 12 24 = 0 ∧ I 12 32 = 5 ∧ I 12 37 = 0 ∧ (∀ j, j < 60 → I 73 j = -1) ∧ (∀ j, j < 4 → I 82 j = -1)
def mv_md (I I' : mv_I) : Prop := ∀ k, (k = 12 ∨ 51 ≤ k) → I' k = I k
theorem mv_md.rf {I : mv_I} : mv_md I I := fun _ _ => rfl
theorem mv_md.up {I I' : mv_I} (h : mv_md I I') {c : Nat} {f : Nat → Int32} (hc : c ≠ 12 ∧ c < 51) : mv_md I (va_up I' c f) := fun k hk => by rw [va_up_ne _ _ (by omega)]; exact h k hk
theorem mv_md.fm {I I' : mv_I} (h : mv_md I I') (f : mv_fm I) : mv_fm I' := by
  unfold mv_fm at *
  rw [h 12 (by omega), h 73 (by omega), h 82 (by omega)]
  exact f
theorem mi_01 : (0 - 1 : Int32) = -1 := by decide
theorem mi_sh : (1 <<< ((0 : Int32) &&& 31) - 1 : Int32) = 0 := by decide
set_option maxHeartbeats 1000000 in
theorem f_lot {d : Nat} (hd : 4 ≤ d) (a b c : Int32) {I : mv_I} {J : mv_J} {Q : mv_Q} (fr : mv_fr I) (h : ∀ (r : Int32) (I' : mv_I), mv_md I I' → r = -1 → Q (some (.inl r)) I' J) : mv_wpM mv_tab mv_sh d 49 [.inr (.inr 0), .inl a, .inl b, .inl c] I J Q := by
  obtain ⟨d, rfl⟩ : ∃ e, d = e + 1 := ⟨d - 1, by omega⟩
  refine (show ∃ fu9, mv_wp (mv_wpM mv_tab mv_sh d) mv_sh none tbX7_lot flX7 csX7 1 (fun _ _ _ _ _ => False) Q fu9 0 [some (.inr (.inr 0)), some (.inl a), some (.inl b), some (.inl c)] [] I J from ?_)
  refine ⟨60, ?_⟩
  obtain ⟨f1, f2, f3, f4, f5, f6, f7, f8, f9, f10, f11, f12, f13, f14⟩ := fr
  refine c_hasWorks (by omega) a (fun q => absurd q (fun q => (by simp only [f2, mi_01, mi_sh] at q; (simp only [mi_le, mi_lt, mi_eq] at *; have := mi_l; omega)))) (fun _ => ?_)
  first | refine And.intro (fun z => absurd z (by decide)) (fun _ => ?_) | refine And.intro (fun _ => ?_) (fun z => absurd z (by decide))
  exact h _ _ mv_md.rf rfl

set_option maxHeartbeats 1000000 in
theorem f_lend {d : Nat} (hd : 4 ≤ d) (a b c : Int32) {I : mv_I} {J : mv_J} {Q : mv_Q} (fr : mv_fr I) (h : ∀ (r : Int32) (I' : mv_I), mv_md I I' → r = -1 → Q (some (.inl r)) I' J) : mv_wpM mv_tab mv_sh d 53 [.inr (.inr 0), .inl a, .inl b, .inl c] I J Q := by
  obtain ⟨d, rfl⟩ : ∃ e, d = e + 1 := ⟨d - 1, by omega⟩
  refine (show ∃ fu9, mv_wp (mv_wpM mv_tab mv_sh d) mv_sh none tbX7_lend flX7 csX7 1 (fun _ _ _ _ _ => False) Q fu9 0 [some (.inr (.inr 0)), some (.inl a), some (.inl b), some (.inl c)] [] I J from ?_)
  refine ⟨60, ?_⟩
  obtain ⟨f1, f2, f3, f4, f5, f6, f7, f8, f9, f10, f11, f12, f13, f14⟩ := fr
  refine c_hasWorks (by omega) a (fun q => absurd q (fun q => (by simp only [f2, mi_01, mi_sh] at q; (simp only [mi_le, mi_lt, mi_eq] at *; have := mi_l; omega)))) (fun _ => ?_)
  first | refine And.intro (fun z => absurd z (by decide)) (fun _ => ?_) | refine And.intro (fun _ => ?_) (fun z => absurd z (by decide))
  exact h _ _ mv_md.rf rfl

set_option maxHeartbeats 1000000 in
theorem f_shut {d : Nat} (hd : 4 ≤ d) (a b c : Int32) {I : mv_I} {J : mv_J} {Q : mv_Q} (fr : mv_fr I) (h : ∀ (r : Int32) (I' : mv_I), mv_md I I' → r = -1 → Q (some (.inl r)) I' J) : mv_wpM mv_tab mv_sh d 55 [.inr (.inr 0), .inl a, .inl b, .inl c] I J Q := by
  obtain ⟨d, rfl⟩ : ∃ e, d = e + 1 := ⟨d - 1, by omega⟩
  refine (show ∃ fu9, mv_wp (mv_wpM mv_tab mv_sh d) mv_sh none tbX7_shut flX7 csX7 1 (fun _ _ _ _ _ => False) Q fu9 0 [some (.inr (.inr 0)), some (.inl a), some (.inl b), some (.inl c)] [] I J from ?_)
  refine ⟨60, ?_⟩
  obtain ⟨f1, f2, f3, f4, f5, f6, f7, f8, f9, f10, f11, f12, f13, f14⟩ := fr
  refine c_hasWorks (by omega) a (fun q => absurd q (fun q => (by simp only [f2, mi_01, mi_sh] at q; (simp only [mi_le, mi_lt, mi_eq] at *; have := mi_l; omega)))) (fun _ => ?_)
  first | refine And.intro (fun z => absurd z (by decide)) (fun _ => ?_) | refine And.intro (fun _ => ?_) (fun z => absurd z (by decide))
  exact h _ _ mv_md.rf rfl

set_option maxHeartbeats 1000000 in
theorem f_left {d : Nat} (hd : 4 ≤ d) (a : Int32) {I : mv_I} {J : mv_J} {Q : mv_Q} (fr : mv_fr I) (h : ∀ (r : Int32) (I' : mv_I), mv_md I I' → r = -1 → Q (some (.inl r)) I' J) : mv_wpM mv_tab mv_sh d 59 [.inr (.inr 0), .inl a] I J Q := by
  obtain ⟨d, rfl⟩ : ∃ e, d = e + 1 := ⟨d - 1, by omega⟩
  refine (show ∃ fu9, mv_wp (mv_wpM mv_tab mv_sh d) mv_sh none tbX7_left flX7 csX7 1 (fun _ _ _ _ _ => False) Q fu9 0 [some (.inr (.inr 0)), some (.inl a)] [] I J from ?_)
  refine ⟨60, ?_⟩
  obtain ⟨f1, f2, f3, f4, f5, f6, f7, f8, f9, f10, f11, f12, f13, f14⟩ := fr
  refine c_hasWorks (by omega) a (fun q => absurd q (fun q => (by simp only [f2, mi_01, mi_sh] at q; (simp only [mi_le, mi_lt, mi_eq] at *; have := mi_l; omega)))) (fun _ => ?_)
  first | refine And.intro (fun z => absurd z (by decide)) (fun _ => ?_) | refine And.intro (fun _ => ?_) (fun z => absurd z (by decide))
  exact h _ _ mv_md.rf rfl

set_option maxHeartbeats 1000000 in
theorem f_rail {d : Nat} (hd : 4 ≤ d) (a b : Int32) {I : mv_I} {J : mv_J} {Q : mv_Q} (fr : mv_fr I) (h : ∀ (r : Int32) (I' : mv_I), mv_md I I' → r = -1 → Q (some (.inl r)) I' J) : mv_wpM mv_tab mv_sh d 50 [.inr (.inr 0), .inl a, .inl b] I J Q := by
  obtain ⟨d, rfl⟩ : ∃ e, d = e + 1 := ⟨d - 1, by omega⟩
  refine (show ∃ fu9, mv_wp (mv_wpM mv_tab mv_sh d) mv_sh none tbX7_rail flX7 csX7 1 (fun _ _ _ _ _ => False) Q fu9 0 [some (.inr (.inr 0)), some (.inl a), some (.inl b)] [] I J from ?_)
  refine ⟨60, ?_⟩
  obtain ⟨f1, f2, f3, f4, f5, f6, f7, f8, f9, f10, f11, f12, f13, f14⟩ := fr
  refine c_hasLot (by omega) a (fun q => absurd q (fun q => (by simp only [f6, mi_01, mi_sh] at q; (simp only [mi_le, mi_lt, mi_eq] at *; have := mi_l; omega)))) (fun _ => ?_)
  first | refine And.intro (fun z => absurd z (by decide)) (fun _ => ?_) | refine And.intro (fun _ => ?_) (fun z => absurd z (by decide))
  exact h _ _ mv_md.rf rfl

set_option maxHeartbeats 1000000 in
theorem f_told {d : Nat} (hd : 4 ≤ d) (a b : Int32) {I : mv_I} {J : mv_J} {Q : mv_Q} (fr : mv_fr I) (h : ∀ (r : Int32) (I' : mv_I), mv_md I I' → r = -1 → Q (some (.inl r)) I' J) : mv_wpM mv_tab mv_sh d 51 [.inr (.inr 0), .inl a, .inl b] I J Q := by
  obtain ⟨d, rfl⟩ : ∃ e, d = e + 1 := ⟨d - 1, by omega⟩
  refine (show ∃ fu9, mv_wp (mv_wpM mv_tab mv_sh d) mv_sh none tbX7_told flX7 csX7 1 (fun _ _ _ _ _ => False) Q fu9 0 [some (.inr (.inr 0)), some (.inl a), some (.inl b)] [] I J from ?_)
  refine ⟨60, ?_⟩
  obtain ⟨f1, f2, f3, f4, f5, f6, f7, f8, f9, f10, f11, f12, f13, f14⟩ := fr
  refine c_hasLot (by omega) a (fun q => absurd q (fun q => (by simp only [f6, mi_01, mi_sh] at q; (simp only [mi_le, mi_lt, mi_eq] at *; have := mi_l; omega)))) (fun _ => ?_)
  first | refine And.intro (fun z => absurd z (by decide)) (fun _ => ?_) | refine And.intro (fun _ => ?_) (fun z => absurd z (by decide))
  exact h _ _ mv_md.rf rfl

set_option maxHeartbeats 1000000 in
theorem f_load {d : Nat} (hd : 4 ≤ d) (a b c : Int32) {I : mv_I} {J : mv_J} {Q : mv_Q} (fr : mv_fr I) (h : ∀ (r : Int32) (I' : mv_I), mv_md I I' → r = -1 → Q (some (.inl r)) I' J) : mv_wpM mv_tab mv_sh d 64 [.inr (.inr 0), .inl a, .inl b, .inl c] I J Q := by
  obtain ⟨d, rfl⟩ : ∃ e, d = e + 1 := ⟨d - 1, by omega⟩
  refine (show ∃ fu9, mv_wp (mv_wpM mv_tab mv_sh d) mv_sh none tbX7_load flX7 csX7 1 (fun _ _ _ _ _ => False) Q fu9 0 [some (.inr (.inr 0)), some (.inl a), some (.inl b), some (.inl c), none] [] I J from ?_)
  refine ⟨60, ?_⟩
  obtain ⟨f1, f2, f3, f4, f5, f6, f7, f8, f9, f10, f11, f12, f13, f14⟩ := fr
  refine c_hasShip (by omega) a (fun q => absurd q (fun q => (by simp only [f7, mi_01, mi_sh] at q; (simp only [mi_le, mi_lt, mi_eq] at *; have := mi_l; omega)))) (fun _ => ?_)
  first | refine And.intro (fun z => absurd z (by decide)) (fun _ => ?_) | refine And.intro (fun _ => ?_) (fun z => absurd z (by decide))
  exact h _ _ mv_md.rf rfl

set_option maxHeartbeats 1000000 in
theorem f_held {d : Nat} (hd : 4 ≤ d) (a b : Int32) {I : mv_I} {J : mv_J} {Q : mv_Q} (fr : mv_fr I) (h : ∀ (r : Int32) (I' : mv_I), mv_md I I' → r = -1 → Q (some (.inl r)) I' J) : mv_wpM mv_tab mv_sh d 65 [.inr (.inr 0), .inl a, .inl b] I J Q := by
  obtain ⟨d, rfl⟩ : ∃ e, d = e + 1 := ⟨d - 1, by omega⟩
  refine (show ∃ fu9, mv_wp (mv_wpM mv_tab mv_sh d) mv_sh none tbX7_held flX7 csX7 1 (fun _ _ _ _ _ => False) Q fu9 0 [some (.inr (.inr 0)), some (.inl a), some (.inl b)] [] I J from ?_)
  refine ⟨60, ?_⟩
  obtain ⟨f1, f2, f3, f4, f5, f6, f7, f8, f9, f10, f11, f12, f13, f14⟩ := fr
  refine c_hasShip (by omega) a (fun q => absurd q (fun q => (by simp only [f7, mi_01, mi_sh] at q; (simp only [mi_le, mi_lt, mi_eq] at *; have := mi_l; omega)))) (fun _ => ?_)
  first | refine And.intro (fun z => absurd z (by decide)) (fun _ => ?_) | refine And.intro (fun _ => ?_) (fun z => absurd z (by decide))
  exact h _ _ mv_md.rf rfl

set_option maxHeartbeats 1000000 in
theorem f_grade {d : Nat} (hd : 4 ≤ d) (a : Int32) {I : mv_I} {J : mv_J} {Q : mv_Q} (fr : mv_fr I) (h : ∀ (r : Int32) (I' : mv_I), mv_md I I' → r = -1 → Q (some (.inl r)) I' J) : mv_wpM mv_tab mv_sh d 66 [.inr (.inr 0), .inl a] I J Q := by
  obtain ⟨d, rfl⟩ : ∃ e, d = e + 1 := ⟨d - 1, by omega⟩
  refine (show ∃ fu9, mv_wp (mv_wpM mv_tab mv_sh d) mv_sh none tbX7_grade flX7 csX7 1 (fun _ _ _ _ _ => False) Q fu9 0 [some (.inr (.inr 0)), some (.inl a), none, none, none] [] I J from ?_)
  refine ⟨60, ?_⟩
  obtain ⟨f1, f2, f3, f4, f5, f6, f7, f8, f9, f10, f11, f12, f13, f14⟩ := fr
  refine c_hasShip (by omega) a (fun q => absurd q (fun q => (by simp only [f7, mi_01, mi_sh] at q; (simp only [mi_le, mi_lt, mi_eq] at *; have := mi_l; omega)))) (fun _ => ?_)
  first | refine And.intro (fun z => absurd z (by decide)) (fun _ => ?_) | refine And.intro (fun _ => ?_) (fun z => absurd z (by decide))
  exact h _ _ mv_md.rf rfl

set_option maxHeartbeats 1000000 in
theorem f_laid {d : Nat} (hd : 4 ≤ d) (a b : Int32) {I : mv_I} {J : mv_J} {Q : mv_Q} (fr : mv_fr I) (h : ∀ (r : Int32) (I' : mv_I), mv_md I I' → r = -1 → Q (some (.inl r)) I' J) : mv_wpM mv_tab mv_sh d 73 [.inr (.inr 0), .inl a, .inl b] I J Q := by
  obtain ⟨d, rfl⟩ : ∃ e, d = e + 1 := ⟨d - 1, by omega⟩
  refine (show ∃ fu9, mv_wp (mv_wpM mv_tab mv_sh d) mv_sh none tbX7_laid flX7 csX7 1 (fun _ _ _ _ _ => False) Q fu9 0 [some (.inr (.inr 0)), some (.inl a), some (.inl b)] [] I J from ?_)
  refine ⟨60, ?_⟩
  obtain ⟨f1, f2, f3, f4, f5, f6, f7, f8, f9, f10, f11, f12, f13, f14⟩ := fr
  refine c_hasShip (by omega) a (fun q => absurd q (fun q => (by simp only [f7, mi_01, mi_sh] at q; (simp only [mi_le, mi_lt, mi_eq] at *; have := mi_l; omega)))) (fun _ => ?_)
  first | refine And.intro (fun z => absurd z (by decide)) (fun _ => ?_) | refine And.intro (fun _ => ?_) (fun z => absurd z (by decide))
  exact h _ _ mv_md.rf rfl

set_option maxHeartbeats 1000000 in
theorem f_open {d : Nat} (hd : 4 ≤ d) (a b c : Int32) {I : mv_I} {J : mv_J} {Q : mv_Q} (fr : mv_fr I) (h : ∀ (r : Int32) (I' : mv_I), mv_md I I' → r = -1 → Q (some (.inl r)) I' J) : mv_wpM mv_tab mv_sh d 57 [.inr (.inr 0), .inl a, .inl b, .inl c] I J Q := by
  obtain ⟨d, rfl⟩ : ∃ e, d = e + 1 := ⟨d - 1, by omega⟩
  refine (show ∃ fu9, mv_wp (mv_wpM mv_tab mv_sh d) mv_sh none tbX7_open flX7 csX7 1 (fun _ _ _ _ _ => False) Q fu9 0 [some (.inr (.inr 0)), some (.inl a), some (.inl b), some (.inl c)] [] I J from ?_)
  refine ⟨60, ?_⟩
  obtain ⟨f1, f2, f3, f4, f5, f6, f7, f8, f9, f10, f11, f12, f13, f14⟩ := fr
  refine c_isAsked (by omega) a b c (fun q => absurd q (fun q => (by simp only [f2, mi_01, mi_sh] at q; (simp only [mi_le, mi_lt, mi_eq] at *; have := mi_l; omega)))) (fun _ => ?_)
  first | refine And.intro (fun z => absurd z (by decide)) (fun _ => ?_) | refine And.intro (fun _ => ?_) (fun z => absurd z (by decide))
  exact h _ _ mv_md.rf rfl

set_option maxHeartbeats 1000000 in
theorem f_quota {d : Nat} (hd : 4 ≤ d) (a b c : Int32) {I : mv_I} {J : mv_J} {Q : mv_Q} (fr : mv_fr I) (h : ∀ (r : Int32) (I' : mv_I), mv_md I I' → r = -10000001 → Q (some (.inl r)) I' J) : mv_wpM mv_tab mv_sh d 58 [.inr (.inr 0), .inl a, .inl b, .inl c] I J Q := by
  obtain ⟨d, rfl⟩ : ∃ e, d = e + 1 := ⟨d - 1, by omega⟩
  refine (show ∃ fu9, mv_wp (mv_wpM mv_tab mv_sh d) mv_sh none tbX7_quota flX7 csX7 1 (fun _ _ _ _ _ => False) Q fu9 0 [some (.inr (.inr 0)), some (.inl a), some (.inl b), some (.inl c)] [] I J from ?_)
  refine ⟨60, ?_⟩
  obtain ⟨f1, f2, f3, f4, f5, f6, f7, f8, f9, f10, f11, f12, f13, f14⟩ := fr
  refine c_isAsked (by omega) a b c (fun q => absurd q (fun q => (by simp only [f2, mi_01, mi_sh] at q; (simp only [mi_le, mi_lt, mi_eq] at *; have := mi_l; omega)))) (fun _ => ?_)
  first | refine And.intro (fun z => absurd z (by decide)) (fun _ => ?_) | refine And.intro (fun _ => ?_) (fun z => absurd z (by decide))
  exact h _ _ mv_md.rf rfl

set_option maxHeartbeats 1000000 in
theorem f_lay {d : Nat} (hd : 4 ≤ d) (a : Int32) {I : mv_I} {J : mv_J} {Q : mv_Q} (fr : mv_fr I) (h : ∀ (r : Int32) (I' : mv_I), mv_md I I' → r = -1 → Q (some (.inl r)) I' J) : mv_wpM mv_tab mv_sh d 72 [.inr (.inr 0), .inl a] I J Q := by
  obtain ⟨d, rfl⟩ : ∃ e, d = e + 1 := ⟨d - 1, by omega⟩
  refine (show ∃ fu9, mv_wp (mv_wpM mv_tab mv_sh d) mv_sh none tbX7_lay flX7 csX7 1 (fun _ _ _ _ _ => False) Q fu9 0 [some (.inr (.inr 0)), some (.inl a)] [] I J from ?_)
  refine ⟨60, ?_⟩
  obtain ⟨f1, f2, f3, f4, f5, f6, f7, f8, f9, f10, f11, f12, f13, f14⟩ := fr
  refine c_isWithin (by omega) a 1 _ (fun q => absurd q (fun q => (by simp only [f7, mi_01, mi_sh] at q; (simp only [mi_le, mi_lt, mi_eq] at *; have := mi_l; omega)))) (fun _ => ?_)
  first | refine And.intro (fun z => absurd z (by decide)) (fun _ => ?_) | refine And.intro (fun _ => ?_) (fun z => absurd z (by decide))
  exact h _ _ mv_md.rf rfl

set_option maxHeartbeats 1000000 in
theorem g_lot {d : Nat} (hd : 4 ≤ d) (a b c : Int32) {I : mv_I} {J : mv_J} {Q : mv_Q} (fm : mv_fm I) (h : ∀ (r : Int32) (I' : mv_I) (J' : mv_J), r = -1 → Q (some (.inl r)) I' J') : mv_wpM mv_tab mv_sh d 84 [.inr (.inr 12), .inl a, .inl b, .inl c] I J Q := by
  obtain ⟨d, rfl⟩ : ∃ e, d = e + 1 := ⟨d - 1, by omega⟩
  refine (show ∃ fu9, mv_wp (mv_wpM mv_tab mv_sh d) mv_sh none tbX8_lot flX8 csX8 1 (fun _ _ _ _ _ => False) Q fu9 0 [some (.inr (.inr 12)), some (.inl a), some (.inl b), some (.inl c)] [] I J from ?_)
  refine ⟨60, ?_⟩
  obtain ⟨f1, f2, f3, f4, f5, f6, f7, f8, f9, f10, f11⟩ := fm
  refine c8_isWorks (by omega) a (fun q => absurd q (fun q => (by simp only [f1, mi_01, mi_sh] at q; (simp only [mi_le, mi_lt, mi_eq] at *; have := mi_l; omega)))) (fun _ => ?_)
  first | refine And.intro (fun z => absurd z (by decide)) (fun _ => ?_) | refine And.intro (fun _ => ?_) (fun z => absurd z (by decide))
  exact h _ _ _ rfl

set_option maxHeartbeats 1000000 in
theorem g_lend {d : Nat} (hd : 4 ≤ d) (a b c : Int32) {I : mv_I} {J : mv_J} {Q : mv_Q} (fm : mv_fm I) (h : ∀ (r : Int32) (I' : mv_I) (J' : mv_J), r = -1 → Q (some (.inl r)) I' J') : mv_wpM mv_tab mv_sh d 93 [.inr (.inr 12), .inl a, .inl b, .inl c] I J Q := by
  obtain ⟨d, rfl⟩ : ∃ e, d = e + 1 := ⟨d - 1, by omega⟩
  refine (show ∃ fu9, mv_wp (mv_wpM mv_tab mv_sh d) mv_sh none tbX8_lend flX8 csX8 1 (fun _ _ _ _ _ => False) Q fu9 0 [some (.inr (.inr 12)), some (.inl a), some (.inl b), some (.inl c)] [] I J from ?_)
  refine ⟨60, ?_⟩
  obtain ⟨f1, f2, f3, f4, f5, f6, f7, f8, f9, f10, f11⟩ := fm
  refine c8_isWorks (by omega) a (fun q => absurd q (fun q => (by simp only [f1, mi_01, mi_sh] at q; (simp only [mi_le, mi_lt, mi_eq] at *; have := mi_l; omega)))) (fun _ => ?_)
  first | refine And.intro (fun z => absurd z (by decide)) (fun _ => ?_) | refine And.intro (fun _ => ?_) (fun z => absurd z (by decide))
  exact h _ _ _ rfl

set_option maxHeartbeats 1000000 in
theorem g_shut {d : Nat} (hd : 4 ≤ d) (a b c : Int32) {I : mv_I} {J : mv_J} {Q : mv_Q} (fm : mv_fm I) (h : ∀ (r : Int32) (I' : mv_I) (J' : mv_J), r = -1 → Q (some (.inl r)) I' J') : mv_wpM mv_tab mv_sh d 94 [.inr (.inr 12), .inl a, .inl b, .inl c] I J Q := by
  obtain ⟨d, rfl⟩ : ∃ e, d = e + 1 := ⟨d - 1, by omega⟩
  refine (show ∃ fu9, mv_wp (mv_wpM mv_tab mv_sh d) mv_sh none tbX8_shut flX8 csX8 1 (fun _ _ _ _ _ => False) Q fu9 0 [some (.inr (.inr 12)), some (.inl a), some (.inl b), some (.inl c)] [] I J from ?_)
  refine ⟨60, ?_⟩
  obtain ⟨f1, f2, f3, f4, f5, f6, f7, f8, f9, f10, f11⟩ := fm
  refine c8_isWorks (by omega) a (fun q => absurd q (fun q => (by simp only [f1, mi_01, mi_sh] at q; (simp only [mi_le, mi_lt, mi_eq] at *; have := mi_l; omega)))) (fun _ => ?_)
  first | refine And.intro (fun z => absurd z (by decide)) (fun _ => ?_) | refine And.intro (fun _ => ?_) (fun z => absurd z (by decide))
  exact h _ _ _ rfl

set_option maxHeartbeats 1000000 in
theorem g_left {d : Nat} (hd : 4 ≤ d) (a : Int32) {I : mv_I} {J : mv_J} {Q : mv_Q} (fm : mv_fm I) (h : ∀ (r : Int32) (I' : mv_I) (J' : mv_J), r = -1 → Q (some (.inl r)) I' J') : mv_wpM mv_tab mv_sh d 99 [.inr (.inr 12), .inl a] I J Q := by
  obtain ⟨d, rfl⟩ : ∃ e, d = e + 1 := ⟨d - 1, by omega⟩
  refine (show ∃ fu9, mv_wp (mv_wpM mv_tab mv_sh d) mv_sh none tbX8_left flX8 csX8 1 (fun _ _ _ _ _ => False) Q fu9 0 [some (.inr (.inr 12)), some (.inl a)] [] I J from ?_)
  refine ⟨60, ?_⟩
  obtain ⟨f1, f2, f3, f4, f5, f6, f7, f8, f9, f10, f11⟩ := fm
  refine c8_isWorks (by omega) a (fun q => absurd q (fun q => (by simp only [f1, mi_01, mi_sh] at q; (simp only [mi_le, mi_lt, mi_eq] at *; have := mi_l; omega)))) (fun _ => ?_)
  first | refine And.intro (fun z => absurd z (by decide)) (fun _ => ?_) | refine And.intro (fun _ => ?_) (fun z => absurd z (by decide))
  exact h _ _ _ rfl

set_option maxHeartbeats 1000000 in
theorem g_rail {d : Nat} (hd : 4 ≤ d) (a b : Int32) {I : mv_I} {J : mv_J} {Q : mv_Q} (fm : mv_fm I) (h : ∀ (r : Int32) (I' : mv_I) (J' : mv_J), r = -1 → Q (some (.inl r)) I' J') : mv_wpM mv_tab mv_sh d 85 [.inr (.inr 12), .inl a, .inl b] I J Q := by
  obtain ⟨d, rfl⟩ : ∃ e, d = e + 1 := ⟨d - 1, by omega⟩
  refine (show ∃ fu9, mv_wp (mv_wpM mv_tab mv_sh d) mv_sh none tbX8_rail flX8 csX8 1 (fun _ _ _ _ _ => False) Q fu9 0 [some (.inr (.inr 12)), some (.inl a), some (.inl b)] [] I J from ?_)
  refine ⟨60, ?_⟩
  obtain ⟨f1, f2, f3, f4, f5, f6, f7, f8, f9, f10, f11⟩ := fm
  refine c8_isLot (by omega) a (fun q => absurd q (fun q => (by simp only [f3, mi_01, mi_sh] at q; (simp only [mi_le, mi_lt, mi_eq] at *; have := mi_l; omega)))) (fun _ => ?_)
  first | refine And.intro (fun z => absurd z (by decide)) (fun _ => ?_) | refine And.intro (fun _ => ?_) (fun z => absurd z (by decide))
  exact h _ _ _ rfl

set_option maxHeartbeats 1000000 in
theorem g_told {d : Nat} (hd : 4 ≤ d) (a b : Int32) {I : mv_I} {J : mv_J} {Q : mv_Q} (fm : mv_fm I) (h : ∀ (r : Int32) (I' : mv_I) (J' : mv_J), r = -1 → Q (some (.inl r)) I' J') : mv_wpM mv_tab mv_sh d 87 [.inr (.inr 12), .inl a, .inl b] I J Q := by
  obtain ⟨d, rfl⟩ : ∃ e, d = e + 1 := ⟨d - 1, by omega⟩
  refine (show ∃ fu9, mv_wp (mv_wpM mv_tab mv_sh d) mv_sh none tbX8_told flX8 csX8 1 (fun _ _ _ _ _ => False) Q fu9 0 [some (.inr (.inr 12)), some (.inl a), some (.inl b)] [] I J from ?_)
  refine ⟨60, ?_⟩
  obtain ⟨f1, f2, f3, f4, f5, f6, f7, f8, f9, f10, f11⟩ := fm
  refine c8_isLot (by omega) a (fun q => absurd q (fun q => (by simp only [f3, mi_01, mi_sh] at q; (simp only [mi_le, mi_lt, mi_eq] at *; have := mi_l; omega)))) (fun _ => ?_)
  first | refine And.intro (fun z => absurd z (by decide)) (fun _ => ?_) | refine And.intro (fun _ => ?_) (fun z => absurd z (by decide))
  exact h _ _ _ rfl

set_option maxHeartbeats 1000000 in
theorem g_load {d : Nat} (hd : 4 ≤ d) (a b c : Int32) {I : mv_I} {J : mv_J} {Q : mv_Q} (fm : mv_fm I) (h : ∀ (r : Int32) (I' : mv_I) (J' : mv_J), r = -1 → Q (some (.inl r)) I' J') : mv_wpM mv_tab mv_sh d 108 [.inr (.inr 12), .inl a, .inl b, .inl c] I J Q := by
  obtain ⟨d, rfl⟩ : ∃ e, d = e + 1 := ⟨d - 1, by omega⟩
  refine (show ∃ fu9, mv_wp (mv_wpM mv_tab mv_sh d) mv_sh none tbX8_load flX8 csX8 1 (fun _ _ _ _ _ => False) Q fu9 0 [some (.inr (.inr 12)), some (.inl a), some (.inl b), some (.inl c), none] [] I J from ?_)
  refine ⟨60, ?_⟩
  obtain ⟨f1, f2, f3, f4, f5, f6, f7, f8, f9, f10, f11⟩ := fm
  refine c8_isShip (by omega) a (fun q => absurd q (fun q => (by simp only [f7, mi_01, mi_sh] at q; (simp only [mi_le, mi_lt, mi_eq] at *; have := mi_l; omega)))) (fun _ => ?_)
  first | refine And.intro (fun z => absurd z (by decide)) (fun _ => ?_) | refine And.intro (fun _ => ?_) (fun z => absurd z (by decide))
  exact h _ _ _ rfl

set_option maxHeartbeats 1000000 in
theorem g_held {d : Nat} (hd : 4 ≤ d) (a b : Int32) {I : mv_I} {J : mv_J} {Q : mv_Q} (fm : mv_fm I) (h : ∀ (r : Int32) (I' : mv_I) (J' : mv_J), r = -1 → Q (some (.inl r)) I' J') : mv_wpM mv_tab mv_sh d 109 [.inr (.inr 12), .inl a, .inl b] I J Q := by
  obtain ⟨d, rfl⟩ : ∃ e, d = e + 1 := ⟨d - 1, by omega⟩
  refine (show ∃ fu9, mv_wp (mv_wpM mv_tab mv_sh d) mv_sh none tbX8_held flX8 csX8 1 (fun _ _ _ _ _ => False) Q fu9 0 [some (.inr (.inr 12)), some (.inl a), some (.inl b)] [] I J from ?_)
  refine ⟨60, ?_⟩
  obtain ⟨f1, f2, f3, f4, f5, f6, f7, f8, f9, f10, f11⟩ := fm
  refine c8_isShip (by omega) a (fun q => absurd q (fun q => (by simp only [f7, mi_01, mi_sh] at q; (simp only [mi_le, mi_lt, mi_eq] at *; have := mi_l; omega)))) (fun _ => ?_)
  first | refine And.intro (fun z => absurd z (by decide)) (fun _ => ?_) | refine And.intro (fun _ => ?_) (fun z => absurd z (by decide))
  exact h _ _ _ rfl

set_option maxHeartbeats 1000000 in
theorem g_grade {d : Nat} (hd : 4 ≤ d) (a : Int32) {I : mv_I} {J : mv_J} {Q : mv_Q} (fm : mv_fm I) (h : ∀ (r : Int32) (I' : mv_I) (J' : mv_J), r = -1 → Q (some (.inl r)) I' J') : mv_wpM mv_tab mv_sh d 110 [.inr (.inr 12), .inl a] I J Q := by
  obtain ⟨d, rfl⟩ : ∃ e, d = e + 1 := ⟨d - 1, by omega⟩
  refine (show ∃ fu9, mv_wp (mv_wpM mv_tab mv_sh d) mv_sh none tbX8_grade flX8 csX8 1 (fun _ _ _ _ _ => False) Q fu9 0 [some (.inr (.inr 12)), some (.inl a), none, none, none] [] I J from ?_)
  refine ⟨60, ?_⟩
  obtain ⟨f1, f2, f3, f4, f5, f6, f7, f8, f9, f10, f11⟩ := fm
  refine c8_isShip (by omega) a (fun q => absurd q (fun q => (by simp only [f7, mi_01, mi_sh] at q; (simp only [mi_le, mi_lt, mi_eq] at *; have := mi_l; omega)))) (fun _ => ?_)
  first | refine And.intro (fun z => absurd z (by decide)) (fun _ => ?_) | refine And.intro (fun _ => ?_) (fun z => absurd z (by decide))
  exact h _ _ _ rfl

set_option maxHeartbeats 1000000 in
theorem g_open {d : Nat} (hd : 4 ≤ d) (a b c : Int32) {I : mv_I} {J : mv_J} {Q : mv_Q} (fm : mv_fm I) (h : ∀ (r : Int32) (I' : mv_I) (J' : mv_J), r = -1 → Q (some (.inl r)) I' J') : mv_wpM mv_tab mv_sh d 96 [.inr (.inr 12), .inl a, .inl b, .inl c] I J Q := by
  obtain ⟨d, rfl⟩ : ∃ e, d = e + 1 := ⟨d - 1, by omega⟩
  refine (show ∃ fu9, mv_wp (mv_wpM mv_tab mv_sh d) mv_sh none tbX8_open flX8 csX8 1 (fun _ _ _ _ _ => False) Q fu9 0 [some (.inr (.inr 12)), some (.inl a), some (.inl b), some (.inl c)] [] I J from ?_)
  refine ⟨60, ?_⟩
  obtain ⟨f1, f2, f3, f4, f5, f6, f7, f8, f9, f10, f11⟩ := fm
  refine c8_isAsOf (by omega) a b c (fun q => absurd q (fun q => (by simp only [f1, mi_01, mi_sh] at q; (simp only [mi_le, mi_lt, mi_eq] at *; have := mi_l; omega)))) (fun _ => ?_)
  first | refine And.intro (fun z => absurd z (by decide)) (fun _ => ?_) | refine And.intro (fun _ => ?_) (fun z => absurd z (by decide))
  exact h _ _ _ rfl

set_option maxHeartbeats 1000000 in
theorem g_quota {d : Nat} (hd : 4 ≤ d) (a b c : Int32) {I : mv_I} {J : mv_J} {Q : mv_Q} (fm : mv_fm I) (h : ∀ (r : Int32) (I' : mv_I) (J' : mv_J), r = -10000001 → Q (some (.inl r)) I' J') : mv_wpM mv_tab mv_sh d 97 [.inr (.inr 12), .inl a, .inl b, .inl c] I J Q := by
  obtain ⟨d, rfl⟩ : ∃ e, d = e + 1 := ⟨d - 1, by omega⟩
  refine (show ∃ fu9, mv_wp (mv_wpM mv_tab mv_sh d) mv_sh none tbX8_quota flX8 csX8 1 (fun _ _ _ _ _ => False) Q fu9 0 [some (.inr (.inr 12)), some (.inl a), some (.inl b), some (.inl c)] [] I J from ?_)
  refine ⟨60, ?_⟩
  obtain ⟨f1, f2, f3, f4, f5, f6, f7, f8, f9, f10, f11⟩ := fm
  refine c8_isAsOf (by omega) a b c (fun q => absurd q (fun q => (by simp only [f1, mi_01, mi_sh] at q; (simp only [mi_le, mi_lt, mi_eq] at *; have := mi_l; omega)))) (fun _ => ?_)
  first | refine And.intro (fun z => absurd z (by decide)) (fun _ => ?_) | refine And.intro (fun _ => ?_) (fun z => absurd z (by decide))
  exact h _ _ _ rfl

set_option maxHeartbeats 1000000 in
theorem g_lay {d : Nat} (hd : 4 ≤ d) (a : Int32) {I : mv_I} {J : mv_J} {Q : mv_Q} (fm : mv_fm I) (h : ∀ (r : Int32) (I' : mv_I) (J' : mv_J), r = -1 → Q (some (.inl r)) I' J') : mv_wpM mv_tab mv_sh d 120 [.inr (.inr 12), .inl a] I J Q := by
  obtain ⟨d, rfl⟩ : ∃ e, d = e + 1 := ⟨d - 1, by omega⟩
  refine (show ∃ fu9, mv_wp (mv_wpM mv_tab mv_sh d) mv_sh none tbX8_lay flX8 csX8 1 (fun _ _ _ _ _ => False) Q fu9 0 [some (.inr (.inr 12)), some (.inl a), none, none, none, none] [] I J from ?_)
  refine ⟨60, ?_⟩
  obtain ⟨f1, f2, f3, f4, f5, f6, f7, f8, f9, f10, f11⟩ := fm
  refine c_in (by omega) a 1 _ (fun q => absurd q (fun q => (by simp only [f7, mi_01, mi_sh] at q; (simp only [mi_le, mi_lt, mi_eq] at *; have := mi_l; omega)))) (fun _ => ?_)
  first | refine And.intro (fun z => absurd z (by decide)) (fun _ => ?_) | refine And.intro (fun _ => ?_) (fun z => absurd z (by decide))
  exact h _ _ _ rfl

set_option maxHeartbeats 1000000 in
theorem g_laid {d : Nat} (hd : 4 ≤ d) (a b : Int32) {I : mv_I} {J : mv_J} {Q : mv_Q} (fm : mv_fm I) (h : ∀ (r : Int32) (I' : mv_I) (J' : mv_J), r = -1 → Q (some (.inl r)) I' J') : mv_wpM mv_tab mv_sh d 121 [.inr (.inr 12), .inl a, .inl b] I J Q := by
  obtain ⟨d, rfl⟩ : ∃ e, d = e + 1 := ⟨d - 1, by omega⟩
  refine (show ∃ fu9, mv_wp (mv_wpM mv_tab mv_sh d) mv_sh none tbX8_laid flX8 csX8 1 (fun _ _ _ _ _ => False) Q fu9 0 [some (.inr (.inr 12)), some (.inl a), some (.inl b)] [] I J from ?_)
  refine ⟨60, ?_⟩
  obtain ⟨f1, f2, f3, f4, f5, f6, f7, f8, f9, f10, f11⟩ := fm
  refine And.intro (fun q => ?_) (fun q => absurd f9 q)
  exact h _ _ _ rfl

def v_works (a : Int32) : Int32 := if 1 ≤ a ∧ a ≤ 1000 then 0 else -1
def v_weeks (a : Int32) : Int32 := if 0 ≤ a ∧ a ≤ 51 then a else -1
def v_total (a : Int32) : Int32 := if 0 ≤ a ∧ a ≤ 1000000 then 0 else -1
def v_bar (a : Int32) : Int32 := if 0 ≤ a ∧ a ≤ 9 then 5 else -1
theorem mi_in {i : Int32} {n : Nat} (h : 0 ≤ i.toInt) (h2 : i.toInt < n) : vp_in i n := vp_in_iff.mpr ⟨h, h2⟩
theorem mi_in0 {i : Int32} {n : Nat} (h : i = 0) (h2 : 0 < n) : vp_in i n := by subst h; exact vp_in_iff.mpr ⟨by decide, by show (0 : Int) < n; omega⟩
