theorem mi_le {a b : Int32} : a ≤ b ↔ a.toInt ≤ b.toInt := Int32.le_iff_toInt_le
theorem mi_lt {a b : Int32} : a < b ↔ a.toInt < b.toInt := Int32.lt_iff_toInt_lt
theorem mi_l : (4 : Int32).toInt = 4 ∧ (5 : Int32).toInt = 5 ∧ (6 : Int32).toInt = 6 ∧ (7 : Int32).toInt = 7 ∧ (32 : Int32).toInt = 32 ∧ (48 : Int32).toInt = 48 ∧ (57 : Int32).toInt = 57 ∧ (70 : Int32).toInt = 70 ∧ (126 : Int32).toInt = 126 ∧ (0 : Int32).toInt = 0 ∧ (1 : Int32).toInt = 1 ∧ (2 : Int32).toInt = 2 ∧ (3 : Int32).toInt = 3 ∧ (8 : Int32).toInt = 8 ∧ (9 : Int32).toInt = 9 ∧ (30 : Int32).toInt = 30 ∧ (51 : Int32).toInt = 51 ∧ (59 : Int32).toInt = 59 ∧ (60 : Int32).toInt = 60 ∧ (100 : Int32).toInt = 100 ∧ (1000 : Int32).toInt = 1000 ∧ (2000 : Int32).toInt = 2000 ∧ (10000 : Int32).toInt = 10000 ∧ (20000 : Int32).toInt = 20000 ∧ (100000 : Int32).toInt = 100000 ∧ (1000000 : Int32).toInt = 1000000 ∧ (-1 : Int32).toInt = -1 := by decide
theorem mi_eq {a b : Int32} : a = b ↔ a.toInt = b.toInt := Int32.toInt_inj.symm
set_option maxHeartbeats 1000000 in
theorem c_isWithin {d : Nat} (hd : 1 ≤ d) (a b c : Int32) {I : mv_I} {J : mv_J} {Q : mv_Q}  (h1 : (b ≤ a ∧ a ≤ c) → Q (some (.inl 1)) I J) (h0 : ¬ ((b ≤ a ∧ a ≤ c)) → Q (some (.inl 0)) I J) : mv_wpM mv_tab mv_sh d 39 [.inl a, .inl b, .inl c] I J Q := by
  obtain ⟨d, rfl⟩ : ∃ e, d = e + 1 := ⟨d - 1, by omega⟩
  refine (show ∃ fu9, mv_wp (mv_wpM mv_tab mv_sh d) mv_sh none tbX7_isWithin flX7 csX7 2 (fun _ _ _ _ _ => False) Q fu9 0 [some (.inl a), some (.inl b), some (.inl c)] [] I J from ?_)
  refine ⟨60, ?_⟩
  repeat' (first | refine And.intro (fun q => ?_) (fun q => ?_) | refine And.intro (by decide) ?_)
  all_goals first | exact h1 (by (simp only [mi_le, mi_lt, mi_eq] at *; have := mi_l; omega)) | exact h0 (by (simp only [mi_le, mi_lt, mi_eq] at *; have := mi_l; omega))

set_option maxHeartbeats 1000000 in
theorem c_in {d : Nat} (hd : 1 ≤ d) (a b c : Int32) {I : mv_I} {J : mv_J} {Q : mv_Q}  (h1 : (b ≤ a ∧ a ≤ c) → Q (some (.inl 1)) I J) (h0 : ¬ ((b ≤ a ∧ a ≤ c)) → Q (some (.inl 0)) I J) : mv_wpM mv_tab mv_sh d 79 [.inl a, .inl b, .inl c] I J Q := by
  obtain ⟨d, rfl⟩ : ∃ e, d = e + 1 := ⟨d - 1, by omega⟩
  refine (show ∃ fu9, mv_wp (mv_wpM mv_tab mv_sh d) mv_sh none tbX8_in flX8 csX8 2 (fun _ _ _ _ _ => False) Q fu9 0 [some (.inl a), some (.inl b), some (.inl c)] [] I J from ?_)
  refine ⟨60, ?_⟩
  repeat' (first | refine And.intro (fun q => ?_) (fun q => ?_) | refine And.intro (by decide) ?_)
  all_goals first | exact h1 (by (simp only [mi_le, mi_lt, mi_eq] at *; have := mi_l; omega)) | exact h0 (by (simp only [mi_le, mi_lt, mi_eq] at *; have := mi_l; omega))

set_option maxHeartbeats 1000000 in
theorem c_hasWorks {d : Nat} (hd : 1 ≤ d) (a : Int32) {I : mv_I} {J : mv_J} {Q : mv_Q}  (h1 : (0 ≤ a ∧ a < I 1 2) → Q (some (.inl 1)) I J) (h0 : ¬ ((0 ≤ a ∧ a < I 1 2)) → Q (some (.inl 0)) I J) : mv_wpM mv_tab mv_sh d 21 [.inr (.inr 1), .inl a] I J Q := by
  obtain ⟨d, rfl⟩ : ∃ e, d = e + 1 := ⟨d - 1, by omega⟩
  refine (show ∃ fu9, mv_wp (mv_wpM mv_tab mv_sh d) mv_sh none tbX3_hasWorks flX3 csX3 2 (fun _ _ _ _ _ => False) Q fu9 0 [some (.inr (.inr 1)), some (.inl a)] [] I J from ?_)
  refine ⟨60, ?_⟩
  repeat' (first | refine And.intro (fun q => ?_) (fun q => ?_) | refine And.intro (by decide) ?_)
  all_goals first | exact h1 (by (simp only [mi_le, mi_lt, mi_eq] at *; have := mi_l; omega)) | exact h0 (by (simp only [mi_le, mi_lt, mi_eq] at *; have := mi_l; omega))

set_option maxHeartbeats 1000000 in
theorem c_hasLot {d : Nat} (hd : 1 ≤ d) (a : Int32) {I : mv_I} {J : mv_J} {Q : mv_Q}  (h1 : (0 ≤ a ∧ a < I 3 6) → Q (some (.inl 1)) I J) (h0 : ¬ ((0 ≤ a ∧ a < I 3 6)) → Q (some (.inl 0)) I J) : mv_wpM mv_tab mv_sh d 8 [.inr (.inr 3), .inl a] I J Q := by
  obtain ⟨d, rfl⟩ : ∃ e, d = e + 1 := ⟨d - 1, by omega⟩
  refine (show ∃ fu9, mv_wp (mv_wpM mv_tab mv_sh d) mv_sh none tbX1_has flX1 csX1 2 (fun _ _ _ _ _ => False) Q fu9 0 [some (.inr (.inr 3)), some (.inl a)] [] I J from ?_)
  refine ⟨60, ?_⟩
  repeat' (first | refine And.intro (fun q => ?_) (fun q => ?_) | refine And.intro (by decide) ?_)
  all_goals first | exact h1 (by (simp only [mi_le, mi_lt, mi_eq] at *; have := mi_l; omega)) | exact h0 (by (simp only [mi_le, mi_lt, mi_eq] at *; have := mi_l; omega))

set_option maxHeartbeats 1000000 in
theorem c_hasShip {d : Nat} (hd : 1 ≤ d) (a : Int32) {I : mv_I} {J : mv_J} {Q : mv_Q}  (h1 : (0 ≤ a ∧ a < I 4 7) → Q (some (.inl 1)) I J) (h0 : ¬ ((0 ≤ a ∧ a < I 4 7)) → Q (some (.inl 0)) I J) : mv_wpM mv_tab mv_sh d 0 [.inr (.inr 4), .inl a] I J Q := by
  obtain ⟨d, rfl⟩ : ∃ e, d = e + 1 := ⟨d - 1, by omega⟩
  refine (show ∃ fu9, mv_wp (mv_wpM mv_tab mv_sh d) mv_sh none tbX0_has flX0 csX0 2 (fun _ _ _ _ _ => False) Q fu9 0 [some (.inr (.inr 4)), some (.inl a)] [] I J from ?_)
  refine ⟨60, ?_⟩
  repeat' (first | refine And.intro (fun q => ?_) (fun q => ?_) | refine And.intro (by decide) ?_)
  all_goals first | exact h1 (by (simp only [mi_le, mi_lt, mi_eq] at *; have := mi_l; omega)) | exact h0 (by (simp only [mi_le, mi_lt, mi_eq] at *; have := mi_l; omega))

set_option maxHeartbeats 1000000 in
theorem c_isWeek {d : Nat} (hd : 2 ≤ d) (a : Int32) {I : mv_I} {J : mv_J} {Q : mv_Q} (h1 : (0 ≤ a ∧ a ≤ 51) → Q (some (.inl 1)) I J) (h0 : ¬ (0 ≤ a ∧ a ≤ 51) → Q (some (.inl 0)) I J) : mv_wpM mv_tab mv_sh d 54 [.inl a] I J Q := by
  obtain ⟨d, rfl⟩ : ∃ e, d = e + 1 := ⟨d - 1, by omega⟩
  refine (show ∃ fu9, mv_wp (mv_wpM mv_tab mv_sh d) mv_sh none tbX7_isWeek flX7 csX7 2 (fun _ _ _ _ _ => False) Q fu9 0 [some (.inl a)] [] I J from ?_)
  refine ⟨60, ?_⟩
  exact c_isWithin (by omega) a 0 51 (fun q => And.intro (by decide) (h1 q)) (fun q => And.intro (by decide) (h0 q))

set_option maxHeartbeats 1000000 in
theorem c_isDay {d : Nat} (hd : 2 ≤ d) (a : Int32) {I : mv_I} {J : mv_J} {Q : mv_Q} (h1 : (0 ≤ a ∧ a ≤ 59) → Q (some (.inl 1)) I J) (h0 : ¬ (0 ≤ a ∧ a ≤ 59) → Q (some (.inl 0)) I J) : mv_wpM mv_tab mv_sh d 62 [.inl a] I J Q := by
  obtain ⟨d, rfl⟩ : ∃ e, d = e + 1 := ⟨d - 1, by omega⟩
  refine (show ∃ fu9, mv_wp (mv_wpM mv_tab mv_sh d) mv_sh none tbX7_isDay flX7 csX7 2 (fun _ _ _ _ _ => False) Q fu9 0 [some (.inl a)] [] I J from ?_)
  refine ⟨60, ?_⟩
  exact c_isWithin (by omega) a 0 59 (fun q => And.intro (by decide) (h1 q)) (fun q => And.intro (by decide) (h0 q))

set_option maxHeartbeats 1000000 in
theorem c_isSheet {d : Nat} (hd : 2 ≤ d) (a : Int32) {I : mv_I} {J : mv_J} {Q : mv_Q} (h1 : (0 ≤ a ∧ a ≤ 3) → Q (some (.inl 1)) I J) (h0 : ¬ (0 ≤ a ∧ a ≤ 3) → Q (some (.inl 0)) I J) : mv_wpM mv_tab mv_sh d 67 [.inl a] I J Q := by
  obtain ⟨d, rfl⟩ : ∃ e, d = e + 1 := ⟨d - 1, by omega⟩
  refine (show ∃ fu9, mv_wp (mv_wpM mv_tab mv_sh d) mv_sh none tbX7_isSheet flX7 csX7 2 (fun _ _ _ _ _ => False) Q fu9 0 [some (.inl a)] [] I J from ?_)
  refine ⟨60, ?_⟩
  exact c_isWithin (by omega) a 0 3 (fun q => And.intro (by decide) (h1 q)) (fun q => And.intro (by decide) (h0 q))

set_option maxHeartbeats 1000000 in
theorem c_isLane {d : Nat} (hd : 2 ≤ d) (a : Int32) {I : mv_I} {J : mv_J} {Q : mv_Q} (h1 : (0 ≤ a ∧ a ≤ 2) → Q (some (.inl 1)) I J) (h0 : ¬ (0 ≤ a ∧ a ≤ 2) → Q (some (.inl 0)) I J) : mv_wpM mv_tab mv_sh d 68 [.inl a] I J Q := by
  obtain ⟨d, rfl⟩ : ∃ e, d = e + 1 := ⟨d - 1, by omega⟩
  refine (show ∃ fu9, mv_wp (mv_wpM mv_tab mv_sh d) mv_sh none tbX7_isLane flX7 csX7 2 (fun _ _ _ _ _ => False) Q fu9 0 [some (.inl a)] [] I J from ?_)
  refine ⟨60, ?_⟩
  exact c_isWithin (by omega) a 0 2 (fun q => And.intro (by decide) (h1 q)) (fun q => And.intro (by decide) (h0 q))

set_option maxHeartbeats 1000000 in
theorem c8_isSheet {d : Nat} (hd : 2 ≤ d) (a : Int32) {I : mv_I} {J : mv_J} {Q : mv_Q} (h1 : (0 ≤ a ∧ a ≤ 3) → Q (some (.inl 1)) I J) (h0 : ¬ (0 ≤ a ∧ a ≤ 3) → Q (some (.inl 0)) I J) : mv_wpM mv_tab mv_sh d 123 [.inl a] I J Q := by
  obtain ⟨d, rfl⟩ : ∃ e, d = e + 1 := ⟨d - 1, by omega⟩
  refine (show ∃ fu9, mv_wp (mv_wpM mv_tab mv_sh d) mv_sh none tbX8_isSheet flX8 csX8 2 (fun _ _ _ _ _ => False) Q fu9 0 [some (.inl a)] [] I J from ?_)
  refine ⟨60, ?_⟩
  exact c_in (by omega) a 0 3 (fun q => And.intro (by decide) (h1 q)) (fun q => And.intro (by decide) (h0 q))

set_option maxHeartbeats 1000000 in
theorem c8_isWorks {d : Nat} (hd : 2 ≤ d) (a : Int32) {I : mv_I} {J : mv_J} {Q : mv_Q} (h1 : (0 ≤ a ∧ a ≤ I 12 0 - 1) → Q (some (.inl 1)) I J) (h0 : ¬ (0 ≤ a ∧ a ≤ I 12 0 - 1) → Q (some (.inl 0)) I J) : mv_wpM mv_tab mv_sh d 80 [.inr (.inr 12), .inl a] I J Q := by
  obtain ⟨d, rfl⟩ : ∃ e, d = e + 1 := ⟨d - 1, by omega⟩
  refine (show ∃ fu9, mv_wp (mv_wpM mv_tab mv_sh d) mv_sh none tbX8_isWorks flX8 csX8 2 (fun _ _ _ _ _ => False) Q fu9 0 [some (.inr (.inr 12)), some (.inl a)] [] I J from ?_)
  refine ⟨60, ?_⟩
  exact c_in (by omega) a 0 _ (fun q => And.intro (by decide) (h1 q)) (fun q => And.intro (by decide) (h0 q))

set_option maxHeartbeats 1000000 in
theorem c8_isLot {d : Nat} (hd : 2 ≤ d) (a : Int32) {I : mv_I} {J : mv_J} {Q : mv_Q} (h1 : (0 ≤ a ∧ a ≤ I 12 4 - 1) → Q (some (.inl 1)) I J) (h0 : ¬ (0 ≤ a ∧ a ≤ I 12 4 - 1) → Q (some (.inl 0)) I J) : mv_wpM mv_tab mv_sh d 81 [.inr (.inr 12), .inl a] I J Q := by
  obtain ⟨d, rfl⟩ : ∃ e, d = e + 1 := ⟨d - 1, by omega⟩
  refine (show ∃ fu9, mv_wp (mv_wpM mv_tab mv_sh d) mv_sh none tbX8_isLot flX8 csX8 2 (fun _ _ _ _ _ => False) Q fu9 0 [some (.inr (.inr 12)), some (.inl a)] [] I J from ?_)
  refine ⟨60, ?_⟩
  exact c_in (by omega) a 0 _ (fun q => And.intro (by decide) (h1 q)) (fun q => And.intro (by decide) (h0 q))

set_option maxHeartbeats 1000000 in
theorem c8_isShip {d : Nat} (hd : 2 ≤ d) (a : Int32) {I : mv_I} {J : mv_J} {Q : mv_Q} (h1 : (0 ≤ a ∧ a ≤ I 12 24 - 1) → Q (some (.inl 1)) I J) (h0 : ¬ (0 ≤ a ∧ a ≤ I 12 24 - 1) → Q (some (.inl 0)) I J) : mv_wpM mv_tab mv_sh d 105 [.inr (.inr 12), .inl a] I J Q := by
  obtain ⟨d, rfl⟩ : ∃ e, d = e + 1 := ⟨d - 1, by omega⟩
  refine (show ∃ fu9, mv_wp (mv_wpM mv_tab mv_sh d) mv_sh none tbX8_isShip flX8 csX8 2 (fun _ _ _ _ _ => False) Q fu9 0 [some (.inr (.inr 12)), some (.inl a)] [] I J from ?_)
  refine ⟨60, ?_⟩
  exact c_in (by omega) a 0 _ (fun q => And.intro (by decide) (h1 q)) (fun q => And.intro (by decide) (h0 q))

set_option maxHeartbeats 1000000 in
theorem c_isAsked {d : Nat} (hd : 3 ≤ d) (a b c : Int32) {I : mv_I} {J : mv_J} {Q : mv_Q} (h1 : ((0 ≤ a ∧ a < I 1 2) ∧ (0 ≤ b ∧ b ≤ 51) ∧ (0 ≤ c ∧ c ≤ I 1 9)) → Q (some (.inl 1)) I J) (h0 : ¬ ((0 ≤ a ∧ a < I 1 2) ∧ (0 ≤ b ∧ b ≤ 51) ∧ (0 ≤ c ∧ c ≤ I 1 9)) → Q (some (.inl 0)) I J) : mv_wpM mv_tab mv_sh d 56 [.inr (.inr 0), .inl a, .inl b, .inl c] I J Q := by
  obtain ⟨d, rfl⟩ : ∃ e, d = e + 1 := ⟨d - 1, by omega⟩
  refine (show ∃ fu9, mv_wp (mv_wpM mv_tab mv_sh d) mv_sh none tbX7_isAsked flX7 csX7 2 (fun _ _ _ _ _ => False) Q fu9 0 [some (.inr (.inr 0)), some (.inl a), some (.inl b), some (.inl c)] [] I J from ?_)
  refine ⟨60, ?_⟩
  refine c_hasWorks (by omega) a (fun q1 => ?_) (fun q1 => ?_)
  · refine And.intro (fun z => absurd z (by decide)) (fun _ => ?_)
    refine c_isWeek (by omega) b (fun q2 => ?_) (fun q2 => ?_)
    · refine And.intro (fun z => absurd z (by decide)) (fun _ => ?_)
      refine c_isWithin (by omega) c 0 _ (fun q3 => ?_) (fun q3 => ?_)
      · refine And.intro (fun z => absurd z (by decide)) (fun _ => ?_)
        exact And.intro (by decide) (h1 ⟨q1, q2, q3⟩)
      · refine And.intro (fun _ => ?_) (fun z => absurd rfl z)
        exact And.intro (by decide) (h0 (fun z => q3 z.2.2))
    · refine And.intro (fun _ => ?_) (fun z => absurd rfl z)
      exact And.intro (by decide) (h0 (fun z => q2 z.2.1))
  · refine And.intro (fun _ => ?_) (fun z => absurd rfl z)
    exact And.intro (by decide) (h0 (fun z => q1 z.1))

set_option maxHeartbeats 1000000 in
theorem c8_isAsOf {d : Nat} (hd : 3 ≤ d) (a b c : Int32) {I : mv_I} {J : mv_J} {Q : mv_Q} (h1 : ((0 ≤ a ∧ a ≤ I 12 0 - 1) ∧ (0 ≤ b ∧ b ≤ 51) ∧ (0 ≤ c ∧ c ≤ I 12 11)) → Q (some (.inl 1)) I J) (h0 : ¬ ((0 ≤ a ∧ a ≤ I 12 0 - 1) ∧ (0 ≤ b ∧ b ≤ 51) ∧ (0 ≤ c ∧ c ≤ I 12 11)) → Q (some (.inl 0)) I J) : mv_wpM mv_tab mv_sh d 95 [.inr (.inr 12), .inl a, .inl b, .inl c] I J Q := by
  obtain ⟨d, rfl⟩ : ∃ e, d = e + 1 := ⟨d - 1, by omega⟩
  refine (show ∃ fu9, mv_wp (mv_wpM mv_tab mv_sh d) mv_sh none tbX8_isAsOf flX8 csX8 2 (fun _ _ _ _ _ => False) Q fu9 0 [some (.inr (.inr 12)), some (.inl a), some (.inl b), some (.inl c)] [] I J from ?_)
  refine ⟨60, ?_⟩
  refine c8_isWorks (by omega) a (fun q1 => ?_) (fun q1 => ?_)
  · refine And.intro (fun z => absurd z (by decide)) (fun _ => ?_)
    refine c_in (by omega) b 0 51 (fun q2 => ?_) (fun q2 => ?_)
    · refine And.intro (fun z => absurd z (by decide)) (fun _ => ?_)
      refine c_in (by omega) c 0 _ (fun q3 => ?_) (fun q3 => ?_)
      · refine And.intro (fun z => absurd z (by decide)) (fun _ => ?_)
        exact And.intro (by decide) (h1 ⟨q1, q2, q3⟩)
      · refine And.intro (fun _ => ?_) (fun z => absurd rfl z)
        exact And.intro (by decide) (h0 (fun z => q3 z.2.2))
    · refine And.intro (fun _ => ?_) (fun z => absurd rfl z)
      exact And.intro (by decide) (h0 (fun z => q2 z.2.1))
  · refine And.intro (fun _ => ?_) (fun z => absurd rfl z)
    exact And.intro (by decide) (h0 (fun z => q1 z.1))

