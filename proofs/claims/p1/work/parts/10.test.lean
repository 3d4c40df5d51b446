theorem c_isWithin {d : Nat} (hd : 1 ≤ d) (a b c : Int32) {I : mv_I} {J : mv_J} {Q : mv_Q} (h1 : b ≤ a → a ≤ c → Q (some (.inl 1)) I J) (h0 : ¬ (b ≤ a ∧ a ≤ c) → Q (some (.inl 0)) I J) : mv_wpM mv_tab mv_sh d 39 [.inl a, .inl b, .inl c] I J Q := by
  obtain ⟨d, rfl⟩ : ∃ e, d = e + 1 := ⟨d - 1, by omega⟩
  refine (show ∃ n, mv_wp (mv_wpM mv_tab mv_sh d) mv_sh none tbX7_isWithin flX7 csX7 2 (fun _ _ _ _ _ => False) Q n 0 [some (.inl a), some (.inl b), some (.inl c)] [] I J from ?_)
  refine ⟨20, ?_⟩
  refine And.intro (fun q => ?_) (fun q => ?_)
  · exact And.intro (Or.inl rfl) (h0 (fun z => absurd q (by first | exact Int32.not_lt.mpr z.1 | (intro q2; exact absurd z.1 (Int32.not_le.mpr q2)))))
  · refine And.intro (fun q2 => ?_) (fun q2 => ?_)
    · exact And.intro (Or.inl rfl) (h0 (fun z => absurd z.2 (Int32.not_le.mpr q2)))
    · exact And.intro (Or.inr rfl) (h1 (Int32.not_lt.mp q) (Int32.not_lt.mp q2))
theorem c_works {d : Nat} (hd : 3 ≤ d) (a : Int32) {I : mv_I} {J : mv_J} {Q : mv_Q} (hI : I 1 2 = 0) (h1 : 1 ≤ a → a ≤ 1000 → ∀ I2, Q (some (.inl 0)) I2 J) (h0 : ¬ (1 ≤ a ∧ a ≤ 1000) → Q (some (.inl (-1))) I J) : mv_wpM mv_tab mv_sh d 47 [.inr (.inr 0), .inl a] I J Q := by
  obtain ⟨d, rfl⟩ : ∃ e, d = e + 1 := ⟨d - 1, by omega⟩
  refine (show ∃ n, mv_wp (mv_wpM mv_tab mv_sh d) mv_sh none tbX7_works flX7 csX7 1 (fun _ _ _ _ _ => False) Q n 0 [some (.inr (.inr 0)), some (.inl a)] [] I J from ?_)
  refine ⟨20, ?_⟩
  refine c_isWithin (by omega) a 1 1000 (fun p1 p2 => ?_) (fun p => ?_)
  · refine And.intro (fun q => ?_) (fun q => absurd q (by decide))
    sorry
  · refine And.intro (fun q => absurd rfl q) (fun q => h0 p)
