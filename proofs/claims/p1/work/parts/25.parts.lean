set_option maxHeartbeats 1000000 in
theorem f_skip {d : Nat} (hd : 1 ≤ d) {I : mv_I} {J : mv_J} {Q : mv_Q} (f : I 2 2 ≤ I 2 3) (h : Q none I J) : mv_wpM mv_tab mv_sh d 42 [.inr (.inr 2)] I J Q := by
  obtain ⟨d, rfl⟩ : ∃ e, d = e + 1 := ⟨d - 1, by omega⟩
  refine (show ∃ fu9, mv_wp (mv_wpM mv_tab mv_sh d) mv_sh none tbX6_skipBlanks flX6 csX6 0 (fun _ _ _ _ _ => False) Q fu9 0 [some (.inr (.inr 2))] [] I J from ?_)
  refine ⟨60, ?_⟩
  first | refine And.intro (fun q => ?_) (fun q => absurd f q) | refine And.intro (fun q => absurd f q) (fun q => ?_)
  exact h

set_option maxHeartbeats 1000000 in
theorem f_readNumber {d : Nat} (hd : 2 ≤ d) (a b : Int32) {I : mv_I} {J : mv_J} {Q : mv_Q} (f : I 2 2 = 0) (f2 : I 2 3 = 0) (h : ∀ I' : mv_I, mv_md I I' → I' 2 3 = 0 → Q (some (.inl (-1))) I' J) : mv_wpM mv_tab mv_sh d 43 [.inr (.inr 2), .inl a, .inl b] I J Q := by
  obtain ⟨d, rfl⟩ : ∃ e, d = e + 1 := ⟨d - 1, by omega⟩
  refine (show ∃ fu9, mv_wp (mv_wpM mv_tab mv_sh d) mv_sh none tbX6_readNumber flX6 csX6 1 (fun _ _ _ _ _ => False) Q fu9 0 [some (.inr (.inr 2)), some (.inl a), some (.inl b), none, none] [] I J from ?_)
  refine ⟨60, ?_⟩
  refine f_skip (by omega) (by rw [f, f2]; decide) ?_
  refine And.intro ?_ trivial
  first | refine And.intro (fun q => ?_) (fun q => absurd (show I 2 2 ≤ I 2 3 by rw [f, f2]; decide) q) | refine And.intro (fun q => absurd (show I 2 2 ≤ I 2 3 by rw [f, f2]; decide) q) (fun q => ?_)
  first | refine And.intro (fun q => ?_) (fun q => absurd rfl q) | refine And.intro (fun q => absurd rfl q) (fun q => ?_)
  exact h _ (by repeat (first | exact mv_md.rf | refine mv_md.up ?_ (by decide))) (by simp [va_up, upd, f2])

set_option maxHeartbeats 1000000 in
theorem f_readPair {d : Nat} (hd : 3 ≤ d) (a : Int32) {I : mv_I} {J : mv_J} {Q : mv_Q} (f : I 2 2 = 0) (f2 : I 2 3 = 0) (h : ∀ I' : mv_I, mv_md I I' → I' 2 3 = 0 → Q (some (.inl 0)) I' J) : mv_wpM mv_tab mv_sh d 45 [.inr (.inr 2), .inl a] I J Q := by
  obtain ⟨d, rfl⟩ : ∃ e, d = e + 1 := ⟨d - 1, by omega⟩
  refine (show ∃ fu9, mv_wp (mv_wpM mv_tab mv_sh d) mv_sh none tbX6_readPair flX6 csX6 2 (fun _ _ _ _ _ => False) Q fu9 0 [some (.inr (.inr 2)), some (.inl a), none, none] [] I J from ?_)
  refine ⟨60, ?_⟩
  refine f_readNumber (by omega) 0 (a - 1) f f2 (fun I' m e => ?_)
  first | refine And.intro (fun z => absurd z (by decide)) (fun _ => ?_) | refine And.intro (fun _ => ?_) (fun z => absurd z (by decide))
  exact And.intro (by decide) (h I' m e)

set_option maxHeartbeats 1000000 in
theorem f_readPairs {d : Nat} (hd : 4 ≤ d) (a : Int32) {I : mv_I} {J : mv_J} {Q : mv_Q} (f : I 2 2 = 0) (h : ∀ (r : Int32) (I' : mv_I), mv_md I I' → r = -20 → Q (some (.inl r)) I' J) : mv_wpM mv_tab mv_sh d 46 [.inr (.inr 2), .inl a] I J Q := by
  obtain ⟨d, rfl⟩ : ∃ e, d = e + 1 := ⟨d - 1, by omega⟩
  refine (show ∃ fu9, mv_wp (mv_wpM mv_tab mv_sh d) mv_sh none tbX6_readPairs flX6 csX6 1 (fun _ _ _ _ _ => False) Q fu9 0 [some (.inr (.inr 2)), some (.inl a), none] [] I J from ?_)
  refine ⟨60, ?_⟩
  refine c_fill23 (by omega) 0 ?_
  refine And.intro ?_ trivial
  first | refine And.intro (fun z => absurd z (by decide)) (fun _ => ?_) | refine And.intro (fun _ => ?_) (fun z => absurd z (by decide))
  refine f_readPair (by omega) a (by simp [va_up, upd, f]) (by simp [va_up, upd]) (fun I' m e => ?_)
  first | refine And.intro (fun z => absurd z (by decide)) (fun _ => ?_) | refine And.intro (fun _ => ?_) (fun z => absurd z (by decide))
  exact h _ _ (fun k hk => (m k hk).trans (by rw [va_up_ne _ _ (by omega), va_up_ne _ _ (by omega)])) (by rw [e]; decide)

set_option maxHeartbeats 1000000 in
theorem f_parts {d : Nat} (hd : 5 ≤ d) {I : mv_I} {J : mv_J} {Q : mv_Q} (fr : mv_fr I) (h : ∀ (r : Int32) (I' : mv_I), mv_md I I' → r = (-20) → Q (some (.inl r)) I' J) : mv_wpM mv_tab mv_sh d 61 [.inr (.inr 0)] I J Q := by
  obtain ⟨d, rfl⟩ : ∃ e, d = e + 1 := ⟨d - 1, by omega⟩
  refine (show ∃ fu9, mv_wp (mv_wpM mv_tab mv_sh d) mv_sh none tbX7_parts flX7 csX7 1 (fun _ _ _ _ _ => False) Q fu9 0 [some (.inr (.inr 0)), none] [] I J from ?_)
  refine ⟨60, ?_⟩
  obtain ⟨f1, f2, f3, f4, f5, f6, f7, f8, f9, f10, f11, f12, f13, f14⟩ := fr
  refine f_readPairs (by omega) (I 1 2) f5 (fun r I' m e => ?_)
  subst e
  first | refine And.intro (fun z => absurd z (by decide)) (fun _ => ?_) | refine And.intro (fun _ => ?_) (fun z => absurd z (by decide))
  exact h _ _ (m.up (by decide)) rfl

set_option maxHeartbeats 1000000 in
theorem g_next {d : Nat} (hd : 1 ≤ d) {I : mv_I} {J : mv_J} {Q : mv_Q} (f : I 12 20 = 0) (f2 : I 12 21 = 0) (h : Q (some (.inl 0)) I J) : mv_wpM mv_tab mv_sh d 101 [.inr (.inr 12)] I J Q := by
  obtain ⟨d, rfl⟩ : ∃ e, d = e + 1 := ⟨d - 1, by omega⟩
  refine (show ∃ fu9, mv_wp (mv_wpM mv_tab mv_sh d) mv_sh none tbX8_next flX8 csX8 1 (fun _ _ _ _ _ => False) Q fu9 0 [some (.inr (.inr 12))] [] I J from ?_)
  refine ⟨60, ?_⟩
  first | refine And.intro (fun q => ?_) (fun q => absurd (show I 12 20 ≤ I 12 21 by rw [f, f2]; decide) q) | refine And.intro (fun q => absurd (show I 12 20 ≤ I 12 21 by rw [f, f2]; decide) q) (fun q => ?_)
  first | refine And.intro (fun q => ?_) (fun q => absurd (show I 12 20 ≤ I 12 21 by rw [f, f2]; decide) q) | refine And.intro (fun q => absurd (show I 12 20 ≤ I 12 21 by rw [f, f2]; decide) q) (fun q => ?_)
  exact h

set_option maxHeartbeats 1000000 in
theorem g_number {d : Nat} (hd : 2 ≤ d) (a b : Int32) {I : mv_I} {J : mv_J} {Q : mv_Q} (f : I 12 20 = 0) (f2 : I 12 21 = 0) (h : ∀ I' : mv_I, I' 12 22 = 0 → Q (some (.inl (-1))) I' J) : mv_wpM mv_tab mv_sh d 102 [.inr (.inr 12), .inl a, .inl b] I J Q := by
  obtain ⟨d, rfl⟩ : ∃ e, d = e + 1 := ⟨d - 1, by omega⟩
  refine (show ∃ fu9, mv_wp (mv_wpM mv_tab mv_sh d) mv_sh none tbX8_number flX8 csX8 1 (fun _ _ _ _ _ => False) Q fu9 0 [some (.inr (.inr 12)), some (.inl a), some (.inl b), none, none] [] I J from ?_)
  refine ⟨60, ?_⟩
  refine g_next (by omega) f f2 ?_
  refine c_in (by omega) 0 48 57 (fun q => absurd q (by decide)) (fun _ => ?_)
  first | refine And.intro (fun z => absurd z (by decide)) (fun _ => ?_) | refine And.intro (fun _ => ?_) (fun z => absurd z (by decide))
  exact h _ (by simp [va_up, upd, f2])

set_option maxHeartbeats 1000000 in
theorem g_reads {d : Nat} (hd : 3 ≤ d) {I : mv_I} {J : mv_J} {Q : mv_Q} (f0 : I 12 0 = 0) (f : I 12 20 = 0) (h : ∀ I' : mv_I, I' 12 22 = 0 → Q (some (.inl (-1))) I' J) : mv_wpM mv_tab mv_sh d 103 [.inr (.inr 12)] I J Q := by
  obtain ⟨d, rfl⟩ : ∃ e, d = e + 1 := ⟨d - 1, by omega⟩
  refine (show ∃ fu9, mv_wp (mv_wpM mv_tab mv_sh d) mv_sh none tbX8_reads flX8 csX8 1 (fun _ _ _ _ _ => False) Q fu9 0 [some (.inr (.inr 12)), none, none, none, none] [] I J from ?_)
  refine ⟨60, ?_⟩
  refine And.intro ?_ trivial
  first | refine And.intro (fun q => ?_) (fun q => absurd q (fun q => by simp [va_up, upd, f0] at q)) | refine And.intro (fun q => absurd q (fun q => by simp [va_up, upd, f0] at q)) (fun q => ?_)
  refine And.intro ?_ trivial
  first | refine And.intro (fun z => absurd z (by decide)) (fun _ => ?_) | refine And.intro (fun _ => ?_) (fun z => absurd z (by decide))
  refine g_number (by omega) _ _ (by simp [va_up, upd, f]) (by simp [va_up, upd]) (fun I' e => ?_)
  first | refine And.intro (fun z => absurd z (by decide)) (fun _ => ?_) | refine And.intro (fun _ => ?_) (fun z => absurd z (by decide))
  exact h I' e

set_option maxHeartbeats 1000000 in
theorem g_parts {d : Nat} (hd : 5 ≤ d) {I : mv_I} {J : mv_J} {Q : mv_Q} (fm : mv_fm I) (h : ∀ (r : Int32) (I' : mv_I) (J' : mv_J), r = (-20) → Q (some (.inl r)) I' J') : mv_wpM mv_tab mv_sh d 104 [.inr (.inr 12)] I J Q := by
  obtain ⟨d, rfl⟩ : ∃ e, d = e + 1 := ⟨d - 1, by omega⟩
  refine (show ∃ fu9, mv_wp (mv_wpM mv_tab mv_sh d) mv_sh none tbX8_parts flX8 csX8 1 (fun _ _ _ _ _ => False) Q fu9 0 [some (.inr (.inr 12)), none, none] [] I J from ?_)
  refine ⟨60, ?_⟩
  obtain ⟨f1, f2, f3, f4, f5, f6, f7, f8, f9, f10, f11⟩ := fm
  refine g_reads (by omega) f1 f6 (fun I' e => ?_)
  first | refine And.intro (fun z => absurd z (by decide)) (fun _ => ?_) | refine And.intro (fun _ => ?_) (fun z => absurd z (by decide))
  exact h _ _ _ (by simp [va_up, upd, e])

