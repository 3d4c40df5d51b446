set_option maxHeartbeats 1000000 in
theorem f_addWorks {d : Nat} (hd : 1 ≤ d) (a : Int32) {I : mv_I} {J : mv_J} {Q : mv_Q} (f : I 1 2 = 0) (h : ∀ (r : Int32) (I' : mv_I), mv_md I I' → r = 0 → Q (some (.inl r)) I' J) : mv_wpM mv_tab mv_sh d 22 [.inr (.inr 1), .inl a] I J Q := by
  obtain ⟨d, rfl⟩ : ∃ e, d = e + 1 := ⟨d - 1, by omega⟩
  refine (show ∃ fu9, mv_wp (mv_wpM mv_tab mv_sh d) mv_sh none tbX3_addWorks flX3 csX3 1 (fun _ _ _ _ _ => False) Q fu9 0 [some (.inr (.inr 1)), some (.inl a)] [] I J from ?_)
  refine ⟨60, ?_⟩
  first | refine And.intro (fun q => ?_) (fun q => absurd q (fun q => by (simp only [mi_le, mi_lt, mi_eq] at *; have := mi_l; omega))) | refine And.intro (fun q => absurd q (fun q => by (simp only [mi_le, mi_lt, mi_eq] at *; have := mi_l; omega))) (fun q => ?_)
  refine And.intro (mi_in0 (n := 8) f (by decide)) ?_
  exact h _ _ (by repeat (first | exact mv_md.rf | refine mv_md.up ?_ (by decide))) (by simp [va_up, upd, f])

set_option maxHeartbeats 1000000 in
theorem f_works {d : Nat} (hd : 4 ≤ d) (a : Int32) {I : mv_I} {J : mv_J} {Q : mv_Q} (fr : mv_fr I) (h : ∀ (r : Int32) (I' : mv_I), mv_md I I' → r = v_works a → Q (some (.inl r)) I' J) : mv_wpM mv_tab mv_sh d 47 [.inr (.inr 0), .inl a] I J Q := by
  obtain ⟨d, rfl⟩ : ∃ e, d = e + 1 := ⟨d - 1, by omega⟩
  refine (show ∃ fu9, mv_wp (mv_wpM mv_tab mv_sh d) mv_sh none tbX7_works flX7 csX7 1 (fun _ _ _ _ _ => False) Q fu9 0 [some (.inr (.inr 0)), some (.inl a)] [] I J from ?_)
  refine ⟨60, ?_⟩
  obtain ⟨f1, f2, f3, f4, f5, f6, f7, f8, f9, f10, f11, f12, f13, f14⟩ := fr
  refine c_isWithin (by omega) a 1 1000 (fun p => ?_) (fun p => ?_)
  · first | refine And.intro (fun z => absurd z (by decide)) (fun _ => ?_) | refine And.intro (fun _ => ?_) (fun z => absurd z (by decide))
    exact f_addWorks (by omega) a f2 (fun r I' m e => h r I' m (e.trans (if_pos p).symm))
  · first | refine And.intro (fun z => absurd z (by decide)) (fun _ => ?_) | refine And.intro (fun _ => ?_) (fun z => absurd z (by decide))
    exact h _ _ mv_md.rf (if_neg p).symm

set_option maxHeartbeats 1000000 in
theorem g_works {d : Nat} (hd : 4 ≤ d) (a : Int32) {I : mv_I} {J : mv_J} {Q : mv_Q} (fm : mv_fm I) (h : ∀ (r : Int32) (I' : mv_I) (J' : mv_J), r = v_works a → Q (some (.inl r)) I' J') : mv_wpM mv_tab mv_sh d 82 [.inr (.inr 12), .inl a] I J Q := by
  obtain ⟨d, rfl⟩ : ∃ e, d = e + 1 := ⟨d - 1, by omega⟩
  refine (show ∃ fu9, mv_wp (mv_wpM mv_tab mv_sh d) mv_sh none tbX8_works flX8 csX8 1 (fun _ _ _ _ _ => False) Q fu9 0 [some (.inr (.inr 12)), some (.inl a)] [] I J from ?_)
  refine ⟨60, ?_⟩
  obtain ⟨f1, f2, f3, f4, f5, f6, f7, f8, f9, f10, f11⟩ := fm
  refine c_in (by omega) a 1 1000 (fun p => ?_) (fun p => ?_)
  · first | refine And.intro (fun z => absurd z (by decide)) (fun _ => ?_) | refine And.intro (fun _ => ?_) (fun z => absurd z (by decide))
    first | refine And.intro (fun q => ?_) (fun q => absurd q (fun q => by (simp only [mi_le, mi_lt, mi_eq] at *; have := mi_l; omega))) | refine And.intro (fun q => absurd q (fun q => by (simp only [mi_le, mi_lt, mi_eq] at *; have := mi_l; omega))) (fun q => ?_)
    refine And.intro (mi_in0 (n := 8) f1 (by decide)) ?_
    exact h _ _ _ (Eq.trans (b := 0) (by simp [va_up, upd, f1]) (if_pos p).symm)
  · first | refine And.intro (fun z => absurd z (by decide)) (fun _ => ?_) | refine And.intro (fun _ => ?_) (fun z => absurd z (by decide))
    exact h _ _ _ (if_neg p).symm

set_option maxHeartbeats 1000000 in
theorem f_weeks {d : Nat} (hd : 4 ≤ d) (a : Int32) {I : mv_I} {J : mv_J} {Q : mv_Q} (fr : mv_fr I) (h : ∀ (r : Int32) (I' : mv_I), mv_md I I' → r = v_weeks a → Q (some (.inl r)) I' J) : mv_wpM mv_tab mv_sh d 48 [.inr (.inr 0), .inl a] I J Q := by
  obtain ⟨d, rfl⟩ : ∃ e, d = e + 1 := ⟨d - 1, by omega⟩
  refine (show ∃ fu9, mv_wp (mv_wpM mv_tab mv_sh d) mv_sh none tbX7_weeks flX7 csX7 1 (fun _ _ _ _ _ => False) Q fu9 0 [some (.inr (.inr 0)), some (.inl a)] [] I J from ?_)
  refine ⟨60, ?_⟩
  obtain ⟨f1, f2, f3, f4, f5, f6, f7, f8, f9, f10, f11, f12, f13, f14⟩ := fr
  refine c_isWithin (by omega) a 0 _ (fun p => ?_) (fun p => ?_)
  · first | refine And.intro (fun z => absurd z (by decide)) (fun _ => ?_) | refine And.intro (fun _ => ?_) (fun z => absurd z (by decide))
    simp only [f1, show (51 - 0 : Int32) = 51 by decide] at p
    exact h _ _ (by repeat (first | exact mv_md.rf | refine mv_md.up ?_ (by decide))) (Eq.trans (b := a) (by simp [va_up, upd, f1]) (if_pos p).symm)
  · first | refine And.intro (fun z => absurd z (by decide)) (fun _ => ?_) | refine And.intro (fun _ => ?_) (fun z => absurd z (by decide))
    simp only [f1, show (51 - 0 : Int32) = 51 by decide] at p
    exact h _ _ mv_md.rf (if_neg p).symm

set_option maxHeartbeats 1000000 in
theorem g_weeks {d : Nat} (hd : 4 ≤ d) (a : Int32) {I : mv_I} {J : mv_J} {Q : mv_Q} (fm : mv_fm I) (h : ∀ (r : Int32) (I' : mv_I) (J' : mv_J), r = v_weeks a → Q (some (.inl r)) I' J') : mv_wpM mv_tab mv_sh d 83 [.inr (.inr 12), .inl a] I J Q := by
  obtain ⟨d, rfl⟩ : ∃ e, d = e + 1 := ⟨d - 1, by omega⟩
  refine (show ∃ fu9, mv_wp (mv_wpM mv_tab mv_sh d) mv_sh none tbX8_weeks flX8 csX8 1 (fun _ _ _ _ _ => False) Q fu9 0 [some (.inr (.inr 12)), some (.inl a)] [] I J from ?_)
  refine ⟨60, ?_⟩
  obtain ⟨f1, f2, f3, f4, f5, f6, f7, f8, f9, f10, f11⟩ := fm
  refine c_in (by omega) a 0 51 (fun p => ?_) (fun p => ?_)
  · first | refine And.intro (fun z => absurd z (by decide)) (fun _ => ?_) | refine And.intro (fun _ => ?_) (fun z => absurd z (by decide))
    first | refine And.intro (fun q => ?_) (fun q => absurd q (fun q => by simp only [f2, Int32.zero_add] at q; (simp only [mi_le, mi_lt, mi_eq] at *; have := mi_l; omega))) | refine And.intro (fun q => absurd q (fun q => by simp only [f2, Int32.zero_add] at q; (simp only [mi_le, mi_lt, mi_eq] at *; have := mi_l; omega))) (fun q => ?_)
    exact h _ _ _ (Eq.trans (b := a) (by simp [va_up, upd, f2]) (if_pos p).symm)
  · first | refine And.intro (fun z => absurd z (by decide)) (fun _ => ?_) | refine And.intro (fun _ => ?_) (fun z => absurd z (by decide))
    exact h _ _ _ (if_neg p).symm

set_option maxHeartbeats 1000000 in
theorem f_total {d : Nat} (hd : 4 ≤ d) (a : Int32) {I : mv_I} {J : mv_J} {Q : mv_Q} (fr : mv_fr I) (h : ∀ (r : Int32) (I' : mv_I), mv_md I I' → r = v_total a → Q (some (.inl r)) I' J) : mv_wpM mv_tab mv_sh d 52 [.inr (.inr 0), .inl a] I J Q := by
  obtain ⟨d, rfl⟩ : ∃ e, d = e + 1 := ⟨d - 1, by omega⟩
  refine (show ∃ fu9, mv_wp (mv_wpM mv_tab mv_sh d) mv_sh none tbX7_total flX7 csX7 1 (fun _ _ _ _ _ => False) Q fu9 0 [some (.inr (.inr 0)), some (.inl a), none] [] I J from ?_)
  refine ⟨60, ?_⟩
  obtain ⟨f1, f2, f3, f4, f5, f6, f7, f8, f9, f10, f11, f12, f13, f14⟩ := fr
  refine c_isWithin (by omega) a 0 1000000 (fun p => ?_) (fun p => ?_)
  · first | refine And.intro (fun z => absurd z (by decide)) (fun _ => ?_) | refine And.intro (fun _ => ?_) (fun z => absurd z (by decide))
    exact h _ _ (by repeat (first | exact mv_md.rf | refine mv_md.up ?_ (by decide))) (f3.trans (if_pos p).symm)
  · first | refine And.intro (fun z => absurd z (by decide)) (fun _ => ?_) | refine And.intro (fun _ => ?_) (fun z => absurd z (by decide))
    exact h _ _ mv_md.rf (if_neg p).symm

set_option maxHeartbeats 1000000 in
theorem f_bar {d : Nat} (hd : 4 ≤ d) (a : Int32) {I : mv_I} {J : mv_J} {Q : mv_Q} (fr : mv_fr I) (h : ∀ (r : Int32) (I' : mv_I), mv_md I I' → r = v_bar a → Q (some (.inl r)) I' J) : mv_wpM mv_tab mv_sh d 71 [.inr (.inr 0), .inl a] I J Q := by
  obtain ⟨d, rfl⟩ : ∃ e, d = e + 1 := ⟨d - 1, by omega⟩
  refine (show ∃ fu9, mv_wp (mv_wpM mv_tab mv_sh d) mv_sh none tbX7_bar flX7 csX7 1 (fun _ _ _ _ _ => False) Q fu9 0 [some (.inr (.inr 0)), some (.inl a), none] [] I J from ?_)
  refine ⟨60, ?_⟩
  obtain ⟨f1, f2, f3, f4, f5, f6, f7, f8, f9, f10, f11, f12, f13, f14⟩ := fr
  refine c_isWithin (by omega) a 0 9 (fun p => ?_) (fun p => ?_)
  · first | refine And.intro (fun z => absurd z (by decide)) (fun _ => ?_) | refine And.intro (fun _ => ?_) (fun z => absurd z (by decide))
    exact h _ _ (by repeat (first | exact mv_md.rf | refine mv_md.up ?_ (by decide))) (f8.trans (if_pos p).symm)
  · first | refine And.intro (fun z => absurd z (by decide)) (fun _ => ?_) | refine And.intro (fun _ => ?_) (fun z => absurd z (by decide))
    exact h _ _ mv_md.rf (if_neg p).symm

set_option maxHeartbeats 1000000 in
theorem g_total {d : Nat} (hd : 4 ≤ d) (a : Int32) {I : mv_I} {J : mv_J} {Q : mv_Q} (fm : mv_fm I) (h : ∀ (r : Int32) (I' : mv_I) (J' : mv_J), r = v_total a → Q (some (.inl r)) I' J') : mv_wpM mv_tab mv_sh d 88 [.inr (.inr 12), .inl a] I J Q := by
  obtain ⟨d, rfl⟩ : ∃ e, d = e + 1 := ⟨d - 1, by omega⟩
  refine (show ∃ fu9, mv_wp (mv_wpM mv_tab mv_sh d) mv_sh none tbX8_total flX8 csX8 1 (fun _ _ _ _ _ => False) Q fu9 0 [some (.inr (.inr 12)), some (.inl a), none] [] I J from ?_)
  refine ⟨60, ?_⟩
  obtain ⟨f1, f2, f3, f4, f5, f6, f7, f8, f9, f10, f11⟩ := fm
  refine c_in (by omega) a 0 1000000 (fun p => ?_) (fun p => ?_)
  · first | refine And.intro (fun z => absurd z (by decide)) (fun _ => ?_) | refine And.intro (fun _ => ?_) (fun z => absurd z (by decide))
    exact h _ _ _ (f4.trans (if_pos p).symm)
  · first | refine And.intro (fun z => absurd z (by decide)) (fun _ => ?_) | refine And.intro (fun _ => ?_) (fun z => absurd z (by decide))
    exact h _ _ _ (if_neg p).symm

set_option maxHeartbeats 1000000 in
theorem g_bar {d : Nat} (hd : 4 ≤ d) (a : Int32) {I : mv_I} {J : mv_J} {Q : mv_Q} (fm : mv_fm I) (h : ∀ (r : Int32) (I' : mv_I) (J' : mv_J), r = v_bar a → Q (some (.inl r)) I' J') : mv_wpM mv_tab mv_sh d 113 [.inr (.inr 12), .inl a] I J Q := by
  obtain ⟨d, rfl⟩ : ∃ e, d = e + 1 := ⟨d - 1, by omega⟩
  refine (show ∃ fu9, mv_wp (mv_wpM mv_tab mv_sh d) mv_sh none tbX8_bar flX8 csX8 1 (fun _ _ _ _ _ => False) Q fu9 0 [some (.inr (.inr 12)), some (.inl a), none] [] I J from ?_)
  refine ⟨60, ?_⟩
  obtain ⟨f1, f2, f3, f4, f5, f6, f7, f8, f9, f10, f11⟩ := fm
  refine c_in (by omega) a 0 9 (fun p => ?_) (fun p => ?_)
  · first | refine And.intro (fun z => absurd z (by decide)) (fun _ => ?_) | refine And.intro (fun _ => ?_) (fun z => absurd z (by decide))
    exact h _ _ _ (f8.trans (if_pos p).symm)
  · first | refine And.intro (fun z => absurd z (by decide)) (fun _ => ?_) | refine And.intro (fun _ => ?_) (fun z => absurd z (by decide))
    exact h _ _ _ (if_neg p).symm

def v_drop (a : Int32) : Int32 := if 0 ≤ a ∧ a ≤ 3 then -11 else -1
def v_item (a b : Int32) : Int32 := if 0 ≤ a ∧ a ≤ 3 then (if 0 ≤ b ∧ b ≤ 2 then -11 else -1) else -1
def v_copy (a b : Int32) : Int32 := if 0 ≤ a ∧ a ≤ 3 then (if 0 ≤ b ∧ b ≤ 3 then -11 else -1) else -1
def v_surf (a b c e : Int32) : Int32 := if 0 ≤ a ∧ a ≤ 59 then (if 0 ≤ b ∧ b ≤ 3 then (if 0 ≤ c ∧ c ≤ 2 then (if 0 ≤ e ∧ e ≤ 60 - a then -11 else -1) else -1) else -1) else -1
def v_sheet (a b c : Int32) : Int32 := if 0 ≤ a ∧ a ≤ 3 then (if 0 ≤ b ∧ b ≤ 2 then (if c ≤ 60 then (if c < 0 then -14 else c) else -1) else -1) else -1
def v_ship (a b c e g : Int32) : Int32 := if 0 ≤ a ∧ a ≤ 59 then (if 1 ≤ b ∧ b ≤ 20000 then (if 1 ≤ c ∧ c ≤ 2000 then (if 0 ≤ e ∧ e ≤ 30 then (if 0 ≤ g ∧ g ≤ 100 then 0 else -1) else -1) else -1) else -1) else -1
def v_count (a : Int32) : Int32 := if 0 ≤ a.toInt ∧ a.toInt ≤ 7 then 0 else -1
def v_sea (a : Int32) : Int32 := if 0 ≤ a ∧ a ≤ 59 then 0 else -1
theorem mi_s4 {a : Int32} (h : 0 ≤ a ∧ a ≤ 3) : vp_in a 4 := by
  simp only [mi_le] at h
  have := mi_l
  exact mi_in (by omega) (by omega)
theorem mi_l4 {I : mv_I} (f : ∀ j, j < 4 → I 82 j = -1) {a : Int32} (h : 0 ≤ a ∧ a ≤ 3) : I 82 a.toNatClampNeg = -1 := f _ (by
  obtain ⟨j, hj, rfl⟩ := vp_in_of (mi_s4 h) (by decide)
  rw [nI_clamp (by omega)]
  exact hj)
set_option maxHeartbeats 1000000 in
theorem f_isNothing0 {d : Nat} (hd : 1 ≤ d) {I : mv_I} {J : mv_J} {Q : mv_Q} (f : I 8 1 = -1) (h : Q (some (.inl 1)) I J) : mv_wpM mv_tab mv_sh d 32 [.inr (.inr 8)] I J Q := by
  obtain ⟨d, rfl⟩ : ∃ e, d = e + 1 := ⟨d - 1, by omega⟩
  refine (show ∃ fu9, mv_wp (mv_wpM mv_tab mv_sh d) mv_sh none tbX5_isNothing flX5 csX5 2 (fun _ _ _ _ _ => False) Q fu9 0 [some (.inr (.inr 8))] [] I J from ?_)
  refine ⟨60, ?_⟩
  first | refine And.intro (fun q => ?_) (fun q => absurd f q) | refine And.intro (fun q => absurd f q) (fun q => ?_)
  exact And.intro (by decide) h

set_option maxHeartbeats 1000000 in
theorem f_faultAs0 {d : Nat} (hd : 2 ≤ d) (a b c : Int32) {I : mv_I} {J : mv_J} {Q : mv_Q} (f : I 8 1 = -1) (h : Q (some (.inl (-11))) I J) : mv_wpM mv_tab mv_sh d 35 [.inr (.inr 8), .inl a, .inl b, .inl c] I J Q := by
  obtain ⟨d, rfl⟩ : ∃ e, d = e + 1 := ⟨d - 1, by omega⟩
  refine (show ∃ fu9, mv_wp (mv_wpM mv_tab mv_sh d) mv_sh none tbX5_faultAs flX5 csX5 1 (fun _ _ _ _ _ => False) Q fu9 0 [some (.inr (.inr 8)), some (.inl a), some (.inl b), some (.inl c)] [] I J from ?_)
  refine ⟨60, ?_⟩
  refine f_isNothing0 (by omega) f ?_
  first | refine And.intro (fun z => absurd z (by decide)) (fun _ => ?_) | refine And.intro (fun _ => ?_) (fun z => absurd z (by decide))
  exact h

set_option maxHeartbeats 1000000 in
theorem f_isNothing1 {d : Nat} (hd : 1 ≤ d) {I : mv_I} {J : mv_J} {Q : mv_Q} (f : I 9 1 = -1) (h : Q (some (.inl 1)) I J) : mv_wpM mv_tab mv_sh d 32 [.inr (.inr 9)] I J Q := by
  obtain ⟨d, rfl⟩ : ∃ e, d = e + 1 := ⟨d - 1, by omega⟩
  refine (show ∃ fu9, mv_wp (mv_wpM mv_tab mv_sh d) mv_sh none tbX5_isNothing flX5 csX5 2 (fun _ _ _ _ _ => False) Q fu9 0 [some (.inr (.inr 9))] [] I J from ?_)
  refine ⟨60, ?_⟩
  first | refine And.intro (fun q => ?_) (fun q => absurd f q) | refine And.intro (fun q => absurd f q) (fun q => ?_)
  exact And.intro (by decide) h

set_option maxHeartbeats 1000000 in
theorem f_faultAs1 {d : Nat} (hd : 2 ≤ d) (a b c : Int32) {I : mv_I} {J : mv_J} {Q : mv_Q} (f : I 9 1 = -1) (h : Q (some (.inl (-11))) I J) : mv_wpM mv_tab mv_sh d 35 [.inr (.inr 9), .inl a, .inl b, .inl c] I J Q := by
  obtain ⟨d, rfl⟩ : ∃ e, d = e + 1 := ⟨d - 1, by omega⟩
  refine (show ∃ fu9, mv_wp (mv_wpM mv_tab mv_sh d) mv_sh none tbX5_faultAs flX5 csX5 1 (fun _ _ _ _ _ => False) Q fu9 0 [some (.inr (.inr 9)), some (.inl a), some (.inl b), some (.inl c)] [] I J from ?_)
  refine ⟨60, ?_⟩
  refine f_isNothing1 (by omega) f ?_
  first | refine And.intro (fun z => absurd z (by decide)) (fun _ => ?_) | refine And.intro (fun _ => ?_) (fun z => absurd z (by decide))
  exact h

set_option maxHeartbeats 1000000 in
theorem f_isNothing2 {d : Nat} (hd : 1 ≤ d) {I : mv_I} {J : mv_J} {Q : mv_Q} (f : I 10 1 = -1) (h : Q (some (.inl 1)) I J) : mv_wpM mv_tab mv_sh d 32 [.inr (.inr 10)] I J Q := by
  obtain ⟨d, rfl⟩ : ∃ e, d = e + 1 := ⟨d - 1, by omega⟩
  refine (show ∃ fu9, mv_wp (mv_wpM mv_tab mv_sh d) mv_sh none tbX5_isNothing flX5 csX5 2 (fun _ _ _ _ _ => False) Q fu9 0 [some (.inr (.inr 10))] [] I J from ?_)
  refine ⟨60, ?_⟩
  first | refine And.intro (fun q => ?_) (fun q => absurd f q) | refine And.intro (fun q => absurd f q) (fun q => ?_)
  exact And.intro (by decide) h

set_option maxHeartbeats 1000000 in
theorem f_faultAs2 {d : Nat} (hd : 2 ≤ d) (a b c : Int32) {I : mv_I} {J : mv_J} {Q : mv_Q} (f : I 10 1 = -1) (h : Q (some (.inl (-11))) I J) : mv_wpM mv_tab mv_sh d 35 [.inr (.inr 10), .inl a, .inl b, .inl c] I J Q := by
  obtain ⟨d, rfl⟩ : ∃ e, d = e + 1 := ⟨d - 1, by omega⟩
  refine (show ∃ fu9, mv_wp (mv_wpM mv_tab mv_sh d) mv_sh none tbX5_faultAs flX5 csX5 1 (fun _ _ _ _ _ => False) Q fu9 0 [some (.inr (.inr 10)), some (.inl a), some (.inl b), some (.inl c)] [] I J from ?_)
  refine ⟨60, ?_⟩
  refine f_isNothing2 (by omega) f ?_
  first | refine And.intro (fun z => absurd z (by decide)) (fun _ => ?_) | refine And.intro (fun _ => ?_) (fun z => absurd z (by decide))
  exact h

set_option maxHeartbeats 1000000 in
theorem f_isNothing3 {d : Nat} (hd : 1 ≤ d) {I : mv_I} {J : mv_J} {Q : mv_Q} (f : I 11 1 = -1) (h : Q (some (.inl 1)) I J) : mv_wpM mv_tab mv_sh d 32 [.inr (.inr 11)] I J Q := by
  obtain ⟨d, rfl⟩ : ∃ e, d = e + 1 := ⟨d - 1, by omega⟩
  refine (show ∃ fu9, mv_wp (mv_wpM mv_tab mv_sh d) mv_sh none tbX5_isNothing flX5 csX5 2 (fun _ _ _ _ _ => False) Q fu9 0 [some (.inr (.inr 11))] [] I J from ?_)
  refine ⟨60, ?_⟩
  first | refine And.intro (fun q => ?_) (fun q => absurd f q) | refine And.intro (fun q => absurd f q) (fun q => ?_)
  exact And.intro (by decide) h

set_option maxHeartbeats 1000000 in
theorem f_faultAs3 {d : Nat} (hd : 2 ≤ d) (a b c : Int32) {I : mv_I} {J : mv_J} {Q : mv_Q} (f : I 11 1 = -1) (h : Q (some (.inl (-11))) I J) : mv_wpM mv_tab mv_sh d 35 [.inr (.inr 11), .inl a, .inl b, .inl c] I J Q := by
  obtain ⟨d, rfl⟩ : ∃ e, d = e + 1 := ⟨d - 1, by omega⟩
  refine (show ∃ fu9, mv_wp (mv_wpM mv_tab mv_sh d) mv_sh none tbX5_faultAs flX5 csX5 1 (fun _ _ _ _ _ => False) Q fu9 0 [some (.inr (.inr 11)), some (.inl a), some (.inl b), some (.inl c)] [] I J from ?_)
  refine ⟨60, ?_⟩
  refine f_isNothing3 (by omega) f ?_
  first | refine And.intro (fun z => absurd z (by decide)) (fun _ => ?_) | refine And.intro (fun _ => ?_) (fun z => absurd z (by decide))
  exact h

set_option maxHeartbeats 1000000 in
theorem f_drop {d : Nat} (hd : 4 ≤ d) (a : Int32) {I : mv_I} {J : mv_J} {Q : mv_Q} (fr : mv_fr I) (h : ∀ (r : Int32) (I' : mv_I), mv_md I I' → r = v_drop a → Q (some (.inl r)) I' J) : mv_wpM mv_tab mv_sh d 76 [.inr (.inr 0), .inl a] I J Q := by
  obtain ⟨d, rfl⟩ : ∃ e, d = e + 1 := ⟨d - 1, by omega⟩
  refine (show ∃ fu9, mv_wp (mv_wpM mv_tab mv_sh d) mv_sh none tbX7_drop flX7 csX7 1 (fun _ _ _ _ _ => False) Q fu9 0 [some (.inr (.inr 0)), some (.inl a), none] [] I J from ?_)
  refine ⟨60, ?_⟩
  obtain ⟨f1, f2, f3, f4, f5, f6, f7, f8, f9, f10, f11, f12, f13, f14⟩ := fr
  refine c_isSheet (by omega) a (fun p => ?_) (fun p => ?_)
  · first | refine And.intro (fun z => absurd z (by decide)) (fun _ => ?_) | refine And.intro (fun _ => ?_) (fun z => absurd z (by decide))
    refine And.intro (mi_s4 p) (And.intro (fun _ => ?_) (And.intro (fun _ => ?_) (And.intro (fun _ => ?_) (fun _ => ?_))))
    · refine f_isNothing0 (by omega) f11 ?_
      first | refine And.intro (fun z => absurd z (by decide)) (fun _ => ?_) | refine And.intro (fun _ => ?_) (fun z => absurd z (by decide))
      exact h _ _ mv_md.rf (if_pos p).symm
    · refine f_isNothing1 (by omega) f12 ?_
      first | refine And.intro (fun z => absurd z (by decide)) (fun _ => ?_) | refine And.intro (fun _ => ?_) (fun z => absurd z (by decide))
      exact h _ _ mv_md.rf (if_pos p).symm
    · refine f_isNothing2 (by omega) f13 ?_
      first | refine And.intro (fun z => absurd z (by decide)) (fun _ => ?_) | refine And.intro (fun _ => ?_) (fun z => absurd z (by decide))
      exact h _ _ mv_md.rf (if_pos p).symm
    · refine f_isNothing3 (by omega) f14 ?_
      first | refine And.intro (fun z => absurd z (by decide)) (fun _ => ?_) | refine And.intro (fun _ => ?_) (fun z => absurd z (by decide))
      exact h _ _ mv_md.rf (if_pos p).symm
  · first | refine And.intro (fun z => absurd z (by decide)) (fun _ => ?_) | refine And.intro (fun _ => ?_) (fun z => absurd z (by decide))
    exact h _ _ mv_md.rf (if_neg p).symm

set_option maxHeartbeats 1000000 in
theorem g_drop {d : Nat} (hd : 4 ≤ d) (a : Int32) {I : mv_I} {J : mv_J} {Q : mv_Q} (fm : mv_fm I) (h : ∀ (r : Int32) (I' : mv_I) (J' : mv_J), r = v_drop a → Q (some (.inl r)) I' J') : mv_wpM mv_tab mv_sh d 125 [.inr (.inr 12), .inl a] I J Q := by
  obtain ⟨d, rfl⟩ : ∃ e, d = e + 1 := ⟨d - 1, by omega⟩
  refine (show ∃ fu9, mv_wp (mv_wpM mv_tab mv_sh d) mv_sh none tbX8_drop flX8 csX8 1 (fun _ _ _ _ _ => False) Q fu9 0 [some (.inr (.inr 12)), some (.inl a)] [] I J from ?_)
  refine ⟨60, ?_⟩
  obtain ⟨f1, f2, f3, f4, f5, f6, f7, f8, f9, f10, f11⟩ := fm
  refine c8_isSheet (by omega) a (fun p => ?_) (fun p => ?_)
  · first | refine And.intro (fun z => absurd z (by decide)) (fun _ => ?_) | refine And.intro (fun _ => ?_) (fun z => absurd z (by decide))
    refine And.intro (mi_s4 p) ?_
    have e := mi_l4 f11 p
    first | refine And.intro (fun q => ?_) (fun q => absurd q (fun q => by (simp only [mi_le, mi_lt, mi_eq] at *; have := mi_l; omega))) | refine And.intro (fun q => absurd q (fun q => by (simp only [mi_le, mi_lt, mi_eq] at *; have := mi_l; omega))) (fun q => ?_)
    exact h _ _ _ (if_pos p).symm
  · first | refine And.intro (fun z => absurd z (by decide)) (fun _ => ?_) | refine And.intro (fun _ => ?_) (fun z => absurd z (by decide))
    exact h _ _ _ (if_neg p).symm

set_option maxHeartbeats 1000000 in
theorem f_item {d : Nat} (hd : 4 ≤ d) (a b c g : Int32) {I : mv_I} {J : mv_J} {Q : mv_Q} (fr : mv_fr I) (h : ∀ (r : Int32) (I' : mv_I), mv_md I I' → r = v_item a b → Q (some (.inl r)) I' J) : mv_wpM mv_tab mv_sh d 77 [.inr (.inr 0), .inl a, .inl b, .inl c, .inl g] I J Q := by
  obtain ⟨d, rfl⟩ : ∃ e, d = e + 1 := ⟨d - 1, by omega⟩
  refine (show ∃ fu9, mv_wp (mv_wpM mv_tab mv_sh d) mv_sh none tbX7_item flX7 csX7 1 (fun _ _ _ _ _ => False) Q fu9 0 [some (.inr (.inr 0)), some (.inl a), some (.inl b), some (.inl c), some (.inl g), none] [] I J from ?_)
  refine ⟨60, ?_⟩
  obtain ⟨f1, f2, f3, f4, f5, f6, f7, f8, f9, f10, f11, f12, f13, f14⟩ := fr
  refine c_isSheet (by omega) a (fun p => ?_) (fun p => ?_)
  · first | refine And.intro (fun z => absurd z (by decide)) (fun _ => ?_) | refine And.intro (fun _ => ?_) (fun z => absurd z (by decide))
    refine c_isLane (by omega) b (fun p2 => ?_) (fun p2 => ?_)
    · first | refine And.intro (fun z => absurd z (by decide)) (fun _ => ?_) | refine And.intro (fun _ => ?_) (fun z => absurd z (by decide))
      refine And.intro (mi_s4 p) (And.intro (fun _ => ?_) (And.intro (fun _ => ?_) (And.intro (fun _ => ?_) (fun _ => ?_))))
      · refine f_faultAs0 (by omega) b c 1 f11 ?_
        first | refine And.intro (fun z => absurd z (by decide)) (fun _ => ?_) | refine And.intro (fun _ => ?_) (fun z => absurd z (by decide))
        exact h _ _ mv_md.rf ((if_pos p).trans (if_pos p2)).symm
      · refine f_faultAs1 (by omega) b c 1 f12 ?_
        first | refine And.intro (fun z => absurd z (by decide)) (fun _ => ?_) | refine And.intro (fun _ => ?_) (fun z => absurd z (by decide))
        exact h _ _ mv_md.rf ((if_pos p).trans (if_pos p2)).symm
      · refine f_faultAs2 (by omega) b c 1 f13 ?_
        first | refine And.intro (fun z => absurd z (by decide)) (fun _ => ?_) | refine And.intro (fun _ => ?_) (fun z => absurd z (by decide))
        exact h _ _ mv_md.rf ((if_pos p).trans (if_pos p2)).symm
      · refine f_faultAs3 (by omega) b c 1 f14 ?_
        first | refine And.intro (fun z => absurd z (by decide)) (fun _ => ?_) | refine And.intro (fun _ => ?_) (fun z => absurd z (by decide))
        exact h _ _ mv_md.rf ((if_pos p).trans (if_pos p2)).symm
    · first | refine And.intro (fun z => absurd z (by decide)) (fun _ => ?_) | refine And.intro (fun _ => ?_) (fun z => absurd z (by decide))
      exact h _ _ mv_md.rf ((if_pos p).trans (if_neg p2)).symm
  · first | refine And.intro (fun z => absurd z (by decide)) (fun _ => ?_) | refine And.intro (fun _ => ?_) (fun z => absurd z (by decide))
    exact h _ _ mv_md.rf (if_neg p).symm

set_option maxHeartbeats 1000000 in
theorem g_item {d : Nat} (hd : 4 ≤ d) (a b c g : Int32) {I : mv_I} {J : mv_J} {Q : mv_Q} (fm : mv_fm I) (h : ∀ (r : Int32) (I' : mv_I) (J' : mv_J), r = v_item a b → Q (some (.inl r)) I' J') : mv_wpM mv_tab mv_sh d 126 [.inr (.inr 12), .inl a, .inl b, .inl c, .inl g] I J Q := by
  obtain ⟨d, rfl⟩ : ∃ e, d = e + 1 := ⟨d - 1, by omega⟩
  refine (show ∃ fu9, mv_wp (mv_wpM mv_tab mv_sh d) mv_sh none tbX8_item flX8 csX8 1 (fun _ _ _ _ _ => False) Q fu9 0 [some (.inr (.inr 12)), some (.inl a), some (.inl b), some (.inl c), some (.inl g)] [] I J from ?_)
  refine ⟨60, ?_⟩
  obtain ⟨f1, f2, f3, f4, f5, f6, f7, f8, f9, f10, f11⟩ := fm
  refine c8_isSheet (by omega) a (fun p => ?_) (fun p => ?_)
  · first | refine And.intro (fun z => absurd z (by decide)) (fun _ => ?_) | refine And.intro (fun _ => ?_) (fun z => absurd z (by decide))
    refine c_in (by omega) b 0 2 (fun p2 => ?_) (fun p2 => ?_)
    · first | refine And.intro (fun z => absurd z (by decide)) (fun _ => ?_) | refine And.intro (fun _ => ?_) (fun z => absurd z (by decide))
      refine And.intro (mi_s4 p) ?_
      have e := mi_l4 f11 p
      first | refine And.intro (fun q => ?_) (fun q => absurd q (fun q => by (simp only [mi_le, mi_lt, mi_eq] at *; have := mi_l; omega))) | refine And.intro (fun q => absurd q (fun q => by (simp only [mi_le, mi_lt, mi_eq] at *; have := mi_l; omega))) (fun q => ?_)
      exact h _ _ _ ((if_pos p).trans (if_pos p2)).symm
    · first | refine And.intro (fun z => absurd z (by decide)) (fun _ => ?_) | refine And.intro (fun _ => ?_) (fun z => absurd z (by decide))
      exact h _ _ _ ((if_pos p).trans (if_neg p2)).symm
  · first | refine And.intro (fun z => absurd z (by decide)) (fun _ => ?_) | refine And.intro (fun _ => ?_) (fun z => absurd z (by decide))
    exact h _ _ _ (if_neg p).symm

set_option maxHeartbeats 1000000 in
theorem g_copy {d : Nat} (hd : 4 ≤ d) (a b c g k : Int32) {I : mv_I} {J : mv_J} {Q : mv_Q} (fm : mv_fm I) (h : ∀ (r : Int32) (I' : mv_I) (J' : mv_J), r = v_copy a c → Q (some (.inl r)) I' J') : mv_wpM mv_tab mv_sh d 128 [.inr (.inr 12), .inl a, .inl b, .inl c, .inl g, .inl k] I J Q := by
  obtain ⟨d, rfl⟩ : ∃ e, d = e + 1 := ⟨d - 1, by omega⟩
  refine (show ∃ fu9, mv_wp (mv_wpM mv_tab mv_sh d) mv_sh none tbX8_copy flX8 csX8 1 (fun _ _ _ _ _ => False) Q fu9 0 [some (.inr (.inr 12)), some (.inl a), some (.inl b), some (.inl c), some (.inl g), some (.inl k), none] [] I J from ?_)
  refine ⟨60, ?_⟩
  obtain ⟨f1, f2, f3, f4, f5, f6, f7, f8, f9, f10, f11⟩ := fm
  refine c8_isSheet (by omega) a (fun p => ?_) (fun p => ?_)
  · first | refine And.intro (fun z => absurd z (by decide)) (fun _ => ?_) | refine And.intro (fun _ => ?_) (fun z => absurd z (by decide))
    refine c8_isSheet (by omega) c (fun p2 => ?_) (fun p2 => ?_)
    · first | refine And.intro (fun z => absurd z (by decide)) (fun _ => ?_) | refine And.intro (fun _ => ?_) (fun z => absurd z (by decide))
      refine And.intro (mi_s4 p) ?_
      have e := mi_l4 f11 p
      first | refine And.intro (fun q => ?_) (fun q => absurd q (fun q => by (simp only [mi_le, mi_lt, mi_eq] at *; have := mi_l; omega))) | refine And.intro (fun q => absurd q (fun q => by (simp only [mi_le, mi_lt, mi_eq] at *; have := mi_l; omega))) (fun q => ?_)
      exact h _ _ _ ((if_pos p).trans (if_pos p2)).symm
    · first | refine And.intro (fun z => absurd z (by decide)) (fun _ => ?_) | refine And.intro (fun _ => ?_) (fun z => absurd z (by decide))
      exact h _ _ _ ((if_pos p).trans (if_neg p2)).symm
  · first | refine And.intro (fun z => absurd z (by decide)) (fun _ => ?_) | refine And.intro (fun _ => ?_) (fun z => absurd z (by decide))
    exact h _ _ _ (if_neg p).symm

set_option maxHeartbeats 1000000 in
theorem f_copy {d : Nat} (hd : 4 ≤ d) (a b c g k : Int32) {I : mv_I} {J : mv_J} {Q : mv_Q} (fr : mv_fr I) (h : ∀ (r : Int32) (I' : mv_I), mv_md I I' → r = v_copy a c → Q (some (.inl r)) I' J) : mv_wpM mv_tab mv_sh d 78 [.inr (.inr 0), .inl a, .inl b, .inl c, .inl g, .inl k] I J Q := by
  obtain ⟨d, rfl⟩ : ∃ e, d = e + 1 := ⟨d - 1, by omega⟩
  refine (show ∃ fu9, mv_wp (mv_wpM mv_tab mv_sh d) mv_sh none tbX7_copy flX7 csX7 1 (fun _ _ _ _ _ => False) Q fu9 0 [some (.inr (.inr 0)), some (.inl a), some (.inl b), some (.inl c), some (.inl g), some (.inl k), none, none] [] I J from ?_)
  refine ⟨80, ?_⟩
  obtain ⟨f1, f2, f3, f4, f5, f6, f7, f8, f9, f10, f11, f12, f13, f14⟩ := fr
  refine c_isSheet (by omega) a (fun p => ?_) (fun p => ?_)
  · first | refine And.intro (fun z => absurd z (by decide)) (fun _ => ?_) | refine And.intro (fun _ => ?_) (fun z => absurd z (by decide))
    refine c_isSheet (by omega) c (fun p2 => ?_) (fun p2 => ?_)
    · first | refine And.intro (fun z => absurd z (by decide)) (fun _ => ?_) | refine And.intro (fun _ => ?_) (fun z => absurd z (by decide))
      refine And.intro (mi_s4 p) (And.intro (fun _ => ?_) (And.intro (fun _ => ?_) (And.intro (fun _ => ?_) (fun _ => ?_))))
      · refine And.intro (mi_s4 p2) (And.intro (fun _ => ?_) (And.intro (fun _ => ?_) (And.intro (fun _ => ?_) (fun _ => ?_))))
        · refine f_isNothing0 (by omega) f11 ?_
          first | refine And.intro (fun z => absurd z (by decide)) (fun _ => ?_) | refine And.intro (fun _ => ?_) (fun z => absurd z (by decide))
          exact h _ _ mv_md.rf ((if_pos p).trans (if_pos p2)).symm
        · refine f_isNothing0 (by omega) f11 ?_
          first | refine And.intro (fun z => absurd z (by decide)) (fun _ => ?_) | refine And.intro (fun _ => ?_) (fun z => absurd z (by decide))
          exact h _ _ mv_md.rf ((if_pos p).trans (if_pos p2)).symm
        · refine f_isNothing0 (by omega) f11 ?_
          first | refine And.intro (fun z => absurd z (by decide)) (fun _ => ?_) | refine And.intro (fun _ => ?_) (fun z => absurd z (by decide))
          exact h _ _ mv_md.rf ((if_pos p).trans (if_pos p2)).symm
        · refine f_isNothing0 (by omega) f11 ?_
          first | refine And.intro (fun z => absurd z (by decide)) (fun _ => ?_) | refine And.intro (fun _ => ?_) (fun z => absurd z (by decide))
          exact h _ _ mv_md.rf ((if_pos p).trans (if_pos p2)).symm
      · refine And.intro (mi_s4 p2) (And.intro (fun _ => ?_) (And.intro (fun _ => ?_) (And.intro (fun _ => ?_) (fun _ => ?_))))
        · refine f_isNothing1 (by omega) f12 ?_
          first | refine And.intro (fun z => absurd z (by decide)) (fun _ => ?_) | refine And.intro (fun _ => ?_) (fun z => absurd z (by decide))
          exact h _ _ mv_md.rf ((if_pos p).trans (if_pos p2)).symm
        · refine f_isNothing1 (by omega) f12 ?_
          first | refine And.intro (fun z => absurd z (by decide)) (fun _ => ?_) | refine And.intro (fun _ => ?_) (fun z => absurd z (by decide))
          exact h _ _ mv_md.rf ((if_pos p).trans (if_pos p2)).symm
        · refine f_isNothing1 (by omega) f12 ?_
          first | refine And.intro (fun z => absurd z (by decide)) (fun _ => ?_) | refine And.intro (fun _ => ?_) (fun z => absurd z (by decide))
          exact h _ _ mv_md.rf ((if_pos p).trans (if_pos p2)).symm
        · refine f_isNothing1 (by omega) f12 ?_
          first | refine And.intro (fun z => absurd z (by decide)) (fun _ => ?_) | refine And.intro (fun _ => ?_) (fun z => absurd z (by decide))
          exact h _ _ mv_md.rf ((if_pos p).trans (if_pos p2)).symm
      · refine And.intro (mi_s4 p2) (And.intro (fun _ => ?_) (And.intro (fun _ => ?_) (And.intro (fun _ => ?_) (fun _ => ?_))))
        · refine f_isNothing2 (by omega) f13 ?_
          first | refine And.intro (fun z => absurd z (by decide)) (fun _ => ?_) | refine And.intro (fun _ => ?_) (fun z => absurd z (by decide))
          exact h _ _ mv_md.rf ((if_pos p).trans (if_pos p2)).symm
        · refine f_isNothing2 (by omega) f13 ?_
          first | refine And.intro (fun z => absurd z (by decide)) (fun _ => ?_) | refine And.intro (fun _ => ?_) (fun z => absurd z (by decide))
          exact h _ _ mv_md.rf ((if_pos p).trans (if_pos p2)).symm
        · refine f_isNothing2 (by omega) f13 ?_
          first | refine And.intro (fun z => absurd z (by decide)) (fun _ => ?_) | refine And.intro (fun _ => ?_) (fun z => absurd z (by decide))
          exact h _ _ mv_md.rf ((if_pos p).trans (if_pos p2)).symm
        · refine f_isNothing2 (by omega) f13 ?_
          first | refine And.intro (fun z => absurd z (by decide)) (fun _ => ?_) | refine And.intro (fun _ => ?_) (fun z => absurd z (by decide))
          exact h _ _ mv_md.rf ((if_pos p).trans (if_pos p2)).symm
      · refine And.intro (mi_s4 p2) (And.intro (fun _ => ?_) (And.intro (fun _ => ?_) (And.intro (fun _ => ?_) (fun _ => ?_))))
        · refine f_isNothing3 (by omega) f14 ?_
          first | refine And.intro (fun z => absurd z (by decide)) (fun _ => ?_) | refine And.intro (fun _ => ?_) (fun z => absurd z (by decide))
          exact h _ _ mv_md.rf ((if_pos p).trans (if_pos p2)).symm
        · refine f_isNothing3 (by omega) f14 ?_
          first | refine And.intro (fun z => absurd z (by decide)) (fun _ => ?_) | refine And.intro (fun _ => ?_) (fun z => absurd z (by decide))
          exact h _ _ mv_md.rf ((if_pos p).trans (if_pos p2)).symm
        · refine f_isNothing3 (by omega) f14 ?_
          first | refine And.intro (fun z => absurd z (by decide)) (fun _ => ?_) | refine And.intro (fun _ => ?_) (fun z => absurd z (by decide))
          exact h _ _ mv_md.rf ((if_pos p).trans (if_pos p2)).symm
        · refine f_isNothing3 (by omega) f14 ?_
          first | refine And.intro (fun z => absurd z (by decide)) (fun _ => ?_) | refine And.intro (fun _ => ?_) (fun z => absurd z (by decide))
          exact h _ _ mv_md.rf ((if_pos p).trans (if_pos p2)).symm
    · first | refine And.intro (fun z => absurd z (by decide)) (fun _ => ?_) | refine And.intro (fun _ => ?_) (fun z => absurd z (by decide))
      exact h _ _ mv_md.rf ((if_pos p).trans (if_neg p2)).symm
  · first | refine And.intro (fun z => absurd z (by decide)) (fun _ => ?_) | refine And.intro (fun _ => ?_) (fun z => absurd z (by decide))
    exact h _ _ mv_md.rf (if_neg p).symm

