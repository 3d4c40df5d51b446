/-! the surf of a day as it is taken -/
def dnn (f : Nat → Int32) : Nat → Int
  | 0 => -1
  | n + 1 => if f n < 0 then dnn f n else n
def ups (f : Nat → Int32) : Nat → Nat → Nat
  | 0, a => a
  | k + 1, a => if f a < 0 then ups f k (a + 1) else a
def upw (f : Nat → Int32) (a : Nat) : Nat := ups f (60 - a) a
def tkV (f : Nat → Int32) (a : Int) (b : Nat) : Int32 := if a < 0 then (if b < 60 then f b else 0) else (if b < 60 then (f a.toNat + f b) / 2 else f a.toNat)
def tkn (f : Nat → Int32) (D : Nat) : Int32 := tkV f (dnn f (D + 1)) (upw f D)
theorem dnn_b {f : Nat → Int32} : ∀ n : Nat, -1 ≤ dnn f n ∧ dnn f n < n ∧ (0 ≤ dnn f n → ¬ f (dnn f n).toNat < 0)
  | 0 => ⟨by show (-1 : Int) ≤ -1; omega, by show (-1 : Int) < ((0 : Nat) : Int); omega, fun z => absurd (show (0 : Int) ≤ -1 from z) (by omega)⟩
  | n + 1 => by
    have ih := dnn_b (f := f) n
    by_cases h : f n < 0
    · have e : dnn f (n + 1) = dnn f n := if_pos h
      rw [e]
      exact ⟨ih.1, by omega, ih.2.2⟩
    · have e : dnn f (n + 1) = n := if_neg h
      rw [e]
      exact ⟨by omega, by omega, fun _ => by rw [Int.toNat_natCast]; exact h⟩
theorem upw_go {f : Nat → Int32} {a : Nat} (h : a < 60) (h2 : f a < 0) : upw f a = upw f (a + 1) := by
  unfold upw
  obtain ⟨k, hk⟩ : ∃ k, 60 - a = k + 1 := ⟨60 - a - 1, by omega⟩
  rw [hk, show 60 - (a + 1) = k by omega]
  exact if_pos h2
theorem upw_no {f : Nat → Int32} {a : Nat} (h2 : ¬ f a < 0) : upw f a = a := by
  unfold upw
  cases 60 - a with
  | zero => rfl
  | succ k => exact if_neg h2
theorem upw_60 {f : Nat → Int32} {a : Nat} (h : ¬ a < 60) : upw f a = a := by
  unfold upw
  rw [show 60 - a = 0 by omega]
  rfl
theorem nle0 {v : Int32} : ¬ 0 ≤ v ↔ v < 0 := by
  rw [mi_le, mi_lt]
  omega
theorem mcl_lt {v : Int32} : mcl v < 0 ↔ v < 0 := by
  unfold mcl
  by_cases h : v < 0
  · rw [if_pos h]; exact ⟨fun _ => h, fun _ => by decide⟩
  · rw [if_neg h]
theorem mcl_nn {v : Int32} (h : ¬ v < 0) : mcl v = v := if_neg h
theorem dnn_eq {f g : Nat → Int32} (h : ∀ j, mcl (f j) = g j) : ∀ n : Nat, dnn f n = dnn g n
  | 0 => rfl
  | n + 1 => by
    have ih := dnn_eq h n
    show (if f n < 0 then dnn f n else (n : Int)) = if g n < 0 then dnn g n else (n : Int)
    rw [ih]
    by_cases c : f n < 0
    · rw [if_pos c, if_pos (by rw [← h n]; exact mcl_lt.mpr c)]
    · rw [if_neg c, if_neg (by rw [← h n]; exact fun z => c (mcl_lt.mp z))]
theorem upw_eq {f g : Nat → Int32} (h : ∀ j, mcl (f j) = g j) : ∀ (k a : Nat), 60 - a = k → upw f a = upw g a := by
  intro k
  induction k with
  | zero => intro a e; rw [upw_60 (by omega), upw_60 (by omega)]
  | succ k ih =>
    intro a e
    by_cases c : f a < 0
    · rw [upw_go (f := f) (a := a) (by omega) c, upw_go (f := g) (a := a) (by omega) (by rw [← h a]; exact mcl_lt.mpr c)]
      exact ih (a + 1) (by omega)
    · rw [upw_no c, upw_no (by rw [← h a]; exact fun z => c (mcl_lt.mp z))]
theorem upw_b {f : Nat → Int32} : ∀ (k a : Nat), 60 - a = k → a ≤ 60 → upw f a ≤ 60 ∧ (upw f a < 60 → ¬ f (upw f a) < 0) := by
  intro k
  induction k with
  | zero => intro a e h; rw [upw_60 (by omega)]; exact ⟨h, fun z => absurd z (by omega)⟩
  | succ k ih =>
    intro a e h
    by_cases c : f a < 0
    · rw [upw_go (by omega) c]; exact ih (a + 1) (by omega) (by omega)
    · rw [upw_no c]; exact ⟨h, fun _ => c⟩
theorem tkn_eq {f g : Nat → Int32} (h : ∀ j, mcl (f j) = g j) {D : Nat} (hD : D < 60) : tkn f D = tkn g D := by
  unfold tkn
  rw [← dnn_eq h, ← upw_eq h _ D rfl]
  have b1 := dnn_b (f := f) (D + 1)
  have b2 := upw_b (f := f) _ D rfl (by omega)
  unfold tkV
  have E : ∀ j, ¬ f j < 0 → g j = f j := fun j c => by rw [← h j]; exact mcl_nn c
  by_cases c : dnn f (D + 1) < 0
  · rw [if_pos c, if_pos c]
    by_cases c2 : upw f D < 60
    · rw [if_pos c2, if_pos c2, E _ (b2.2 c2)]
    · rw [if_neg c2, if_neg c2]
  · rw [if_neg c, if_neg c]
    have e1 := E _ (b1.2.2 (by omega))
    by_cases c2 : upw f D < 60
    · rw [if_pos c2, if_pos c2, E _ (b2.2 c2), e1]
    · rw [if_neg c2, if_neg c2, e1]
set_option maxHeartbeats 1000000 in
theorem x_tk2 {d : Nat} {day b : Int32} {I : mv_I} {J : mv_J} {Q : mv_Q} {D : Nat} (hD : D < 60) (eb : b.toInt = dnn (I 38) (D + 1)) (h : Q (some (.inl (tkn (I 38) D))) I J) : ∀ (k fu j : Nat) (x : Int32), x = nI j → j + k = 60 → upw (I 38) D = upw (I 38) j → 40 * (k + 1) + 40 ≤ fu → mv_wp (mv_wpM mv_tab mv_sh d) mv_sh none tbX4_takenOn flX4 csX4 1 (fun _ _ _ _ _ => False) Q fu 23 [some (.inr (.inr 5)), some (.inl day), some (.inl b), some (.inl x)] [] I J := by
  have db := dnn_b (f := I 38) (D + 1)
  have c0 : (0 : Int32).toInt = 0 := by decide
  have c60 : (60 : Int32).toInt = 60 := by decide
  intro k
  induction k with
  | zero =>
    intro fu j x ex hj eu hf
    obtain ⟨fu, rfl⟩ : ∃ z, fu = z + 40 := ⟨fu - 40, by omega⟩
    have tx : x.toInt = j := by rw [ex]; exact nI_toInt (by omega)
    have cx : x.toNatClampNeg = j := by rw [ex]; exact nI_clamp (by omega)
    have EX : upw (I 38) j = j → ∀ fu, 40 ≤ fu → mv_wp (mv_wpM mv_tab mv_sh d) mv_sh none tbX4_takenOn flX4 csX4 1 (fun _ _ _ _ _ => False) Q fu 44 [some (.inr (.inr 5)), some (.inl day), some (.inl b), some (.inl x)] [] I J := by
      intro e2 fu hfu
      obtain ⟨fu, rfl⟩ : ∃ z, fu = z + 40 := ⟨fu - 40, by omega⟩
      have HD : tkn (I 38) D = tkV (I 38) b.toInt j := by unfold tkn; rw [eu, e2, eb]
      refine And.intro (fun q => ?_) (fun q => ?_)
      · have q0 : 0 ≤ b.toInt := by rw [mi_le, c0] at q; exact q
        have Bb : vp_in b 60 := vp_in_iff.mpr ⟨q0, by omega⟩
        refine And.intro (fun q2 => ?_) (fun q2 => ?_)
        · rw [mi_le, c60, tx] at q2
          have hv : tkn (I 38) D = I 38 b.toNatClampNeg := by rw [HD]; unfold tkV; rw [if_neg (by omega), if_neg (by omega)]; rfl
          rw [hv] at h
          exact And.intro Bb h
        · rw [mi_le, c60, tx] at q2
          have hv : tkn (I 38) D = (I 38 b.toNatClampNeg + I 38 j) / 2 := by rw [HD]; unfold tkV; rw [if_neg (by omega), if_pos (by omega)]; rfl
          rw [hv, ← cx] at h
          refine And.intro Bb ?_
          refine And.intro (by rw [ex]; exact vp_in_nI (by omega) (by decide)) ?_
          exact And.intro (by decide) h
      · have q0 : b.toInt < 0 := by rw [mi_le, c0] at q; omega
        refine And.intro (fun q2 => ?_) (fun q2 => ?_)
        · rw [mi_le, c60, tx] at q2
          have hv : tkn (I 38) D = 0 := by rw [HD]; unfold tkV; rw [if_pos (by omega), if_neg (by omega)]
          rw [hv] at h
          exact h
        · rw [mi_le, c60, tx] at q2
          have hv : tkn (I 38) D = I 38 j := by rw [HD]; unfold tkV; rw [if_pos (by omega), if_pos (by omega)]
          rw [hv, ← cx] at h
          exact And.intro (by rw [ex]; exact vp_in_nI (by omega) (by decide)) h
    refine And.intro (fun q => ?_) (fun q => ?_)
    · exact EX (upw_60 (by omega)) _ (by omega)
    · exact absurd (mi_le.mpr (by rw [c60, tx]; omega)) q
  | succ k ih =>
    intro fu j x ex hj eu hf
    obtain ⟨fu, rfl⟩ : ∃ z, fu = z + 40 := ⟨fu - 40, by omega⟩
    have tx : x.toInt = j := by rw [ex]; exact nI_toInt (by omega)
    have cx : x.toNatClampNeg = j := by rw [ex]; exact nI_clamp (by omega)
    have EX : upw (I 38) j = j → ∀ fu, 40 ≤ fu → mv_wp (mv_wpM mv_tab mv_sh d) mv_sh none tbX4_takenOn flX4 csX4 1 (fun _ _ _ _ _ => False) Q fu 44 [some (.inr (.inr 5)), some (.inl day), some (.inl b), some (.inl x)] [] I J := by
      intro e2 fu hfu
      obtain ⟨fu, rfl⟩ : ∃ z, fu = z + 40 := ⟨fu - 40, by omega⟩
      have HD : tkn (I 38) D = tkV (I 38) b.toInt j := by unfold tkn; rw [eu, e2, eb]
      refine And.intro (fun q => ?_) (fun q => ?_)
      · have q0 : 0 ≤ b.toInt := by rw [mi_le, c0] at q; exact q
        have Bb : vp_in b 60 := vp_in_iff.mpr ⟨q0, by omega⟩
        refine And.intro (fun q2 => ?_) (fun q2 => ?_)
        · rw [mi_le, c60, tx] at q2
          have hv : tkn (I 38) D = I 38 b.toNatClampNeg := by rw [HD]; unfold tkV; rw [if_neg (by omega), if_neg (by omega)]; rfl
          rw [hv] at h
          exact And.intro Bb h
        · rw [mi_le, c60, tx] at q2
          have hv : tkn (I 38) D = (I 38 b.toNatClampNeg + I 38 j) / 2 := by rw [HD]; unfold tkV; rw [if_neg (by omega), if_pos (by omega)]; rfl
          rw [hv, ← cx] at h
          refine And.intro Bb ?_
          refine And.intro (by rw [ex]; exact vp_in_nI (by omega) (by decide)) ?_
          exact And.intro (by decide) h
      · have q0 : b.toInt < 0 := by rw [mi_le, c0] at q; omega
        refine And.intro (fun q2 => ?_) (fun q2 => ?_)
        · rw [mi_le, c60, tx] at q2
          have hv : tkn (I 38) D = 0 := by rw [HD]; unfold tkV; rw [if_pos (by omega), if_neg (by omega)]
          rw [hv] at h
          exact h
        · rw [mi_le, c60, tx] at q2
          have hv : tkn (I 38) D = I 38 j := by rw [HD]; unfold tkV; rw [if_pos (by omega), if_pos (by omega)]
          rw [hv, ← cx] at h
          exact And.intro (by rw [ex]; exact vp_in_nI (by omega) (by decide)) h
    refine And.intro (fun q => ?_) (fun q => ?_)
    · rw [mi_le, c60, tx] at q
      omega
    · refine And.intro (by rw [ex]; exact vp_in_nI (by omega) (by decide)) ?_
      refine And.intro (fun q2 => ?_) (fun q2 => ?_)
      · rw [cx] at q2
        exact EX (upw_no (fun z => nle0.mpr z q2)) _ (by omega)
      · rw [cx] at q2
        refine And.intro ?_ trivial
        exact ih _ (j + 1) _ (by rw [ex]; exact nI_1 j) (by omega) (by rw [eu, upw_go (by omega) (nle0.mp q2)]) (by omega)
set_option maxHeartbeats 1000000 in
theorem x_tk1 {d : Nat} {day : Int32} {I : mv_I} {J : mv_J} {Q : mv_Q} {D : Nat} (hD : D < 60) (eD : day = nI D) (h : Q (some (.inl (tkn (I 38) D))) I J) : ∀ (k fu : Nat) (x : Int32) (y : Option mv_V), x.toInt = (k : Int) - 1 → k ≤ D + 1 → dnn (I 38) (D + 1) = dnn (I 38) k → 40 * (k + 1) + 2600 ≤ fu → mv_wp (mv_wpM mv_tab mv_sh d) mv_sh none tbX4_takenOn flX4 csX4 1 (fun _ _ _ _ _ => False) Q fu 2 [some (.inr (.inr 5)), some (.inl day), some (.inl x), y] [] I J := by
  have c0 : (0 : Int32).toInt = 0 := by decide
  intro k
  induction k with
  | zero =>
    intro fu x y ex hk ed hf
    obtain ⟨fu, rfl⟩ : ∃ z, fu = z + 40 := ⟨fu - 40, by omega⟩
    refine And.intro (fun q => ?_) (fun q => ?_)
    · refine And.intro ?_ trivial
      exact x_tk2 hD (by rw [ed, ex]; show ((0 : Nat) : Int) - 1 = -1; omega) h (60 - D) _ D _ eD (by omega) rfl (by omega)
    · exact absurd (mi_lt.mpr (by rw [c0, ex]; omega)) q
  | succ k ih =>
    intro fu x y ex hk ed hf
    obtain ⟨fu, rfl⟩ : ∃ z, fu = z + 40 := ⟨fu - 40, by omega⟩
    have exk : x = nI k := mi_eq.mpr (by rw [nI_toInt (by omega)]; omega)
    have cx : x.toNatClampNeg = k := by rw [exk]; exact nI_clamp (by omega)
    have e1 : (x + -1).toInt = x.toInt - 1 := mi_dec (by omega)
    refine And.intro (fun q => ?_) (fun q => ?_)
    · rw [mi_lt, c0] at q
      omega
    · refine And.intro (by rw [exk]; exact vp_in_nI (by omega) (by decide)) ?_
      refine And.intro (fun q2 => ?_) (fun q2 => ?_)
      · rw [cx] at q2
        refine And.intro ?_ trivial
        refine x_tk2 hD ?_ h (60 - D) _ D _ eD (by omega) rfl (by omega)
        have z : dnn (I 38) (k + 1) = k := if_neg (fun z => nle0.mpr z q2)
        rw [ed, z]
        omega
      · rw [cx] at q2
        refine And.intro ?_ trivial
        refine ih _ _ _ (by omega) (by omega) ?_ (by omega)
        have z : dnn (I 38) (k + 1) = dnn (I 38) k := if_pos (nle0.mp q2)
        rw [ed, z]
set_option maxHeartbeats 1000000 in
theorem e_taken {d : Nat} (hd : 1 ≤ d) (day : Int32) {I : mv_I} {J : mv_J} {Q : mv_Q} {D : Nat} (hD : D < 60) (eD : day = nI D) (h : Q (some (.inl (tkn (I 38) D))) I J) : mv_wpM mv_tab mv_sh d 13 [.inr (.inr 5), .inl day] I J Q := by
  obtain ⟨d, rfl⟩ : ∃ e, d = e + 1 := ⟨d - 1, by omega⟩
  refine (show ∃ fu9, mv_wp (mv_wpM mv_tab mv_sh d) mv_sh none tbX4_takenOn flX4 csX4 1 (fun _ _ _ _ _ => False) Q fu9 0 [some (.inr (.inr 5)), some (.inl day), none, none] [] I J from ?_)
  refine ⟨5200, ?_⟩
  refine And.intro ?_ trivial
  exact x_tk1 hD eD h (D + 1) _ _ _ (by rw [eD, nI_toInt (by omega)]; omega) (Nat.le_refl _) rfl (Nat.le_trans (show 40 * (D + 1 + 1) + 2600 ≤ 5040 by omega) (Nat.le_of_ble_eq_true rfl))
set_option maxHeartbeats 1000000 in
theorem x_rtk2 {d : Nat} {day b : Int32} {I : mv_I} {J : mv_J} {Q : mv_Q} {D : Nat} (hD : D < 60) (eb : b.toInt = dnn (I 73) (D + 1)) (h : Q (some (.inl (tkn (I 73) D))) I J) : ∀ (k fu j : Nat) (x : Int32), x = nI j → j + k = 60 → upw (I 73) D = upw (I 73) j → 40 * (k + 1) + 40 ≤ fu → mv_wp (mv_wpM mv_tab mv_sh d) mv_sh none tbX8_taken flX8 csX8 1 (fun _ _ _ _ _ => False) Q fu 23 [some (.inr (.inr 12)), some (.inl day), some (.inl b), some (.inl x)] [] I J := by
  have db := dnn_b (f := I 73) (D + 1)
  have c0 : (0 : Int32).toInt = 0 := by decide
  have c60 : (60 : Int32).toInt = 60 := by decide
  intro k
  induction k with
  | zero =>
    intro fu j x ex hj eu hf
    obtain ⟨fu, rfl⟩ : ∃ z, fu = z + 40 := ⟨fu - 40, by omega⟩
    have tx : x.toInt = j := by rw [ex]; exact nI_toInt (by omega)
    have cx : x.toNatClampNeg = j := by rw [ex]; exact nI_clamp (by omega)
    have EX : upw (I 73) j = j → ∀ fu, 40 ≤ fu → mv_wp (mv_wpM mv_tab mv_sh d) mv_sh none tbX8_taken flX8 csX8 1 (fun _ _ _ _ _ => False) Q fu 44 [some (.inr (.inr 12)), some (.inl day), some (.inl b), some (.inl x)] [] I J := by
      intro e2 fu hfu
      obtain ⟨fu, rfl⟩ : ∃ z, fu = z + 40 := ⟨fu - 40, by omega⟩
      have HD : tkn (I 73) D = tkV (I 73) b.toInt j := by unfold tkn; rw [eu, e2, eb]
      refine And.intro (fun q => ?_) (fun q => ?_)
      · have q0 : b.toInt < 0 := by rw [mi_lt, c0] at q; exact q
        refine And.intro (fun _ => ?_) (fun q9 => absurd q q9)
        refine And.intro (fun q2 => ?_) (fun q2 => ?_)
        · rw [mi_le, c60, tx] at q2
          have hv : tkn (I 73) D = 0 := by rw [HD]; unfold tkV; rw [if_pos (by omega), if_neg (by omega)]
          rw [hv] at h
          exact h
        · rw [mi_le, c60, tx] at q2
          have hv : tkn (I 73) D = I 73 j := by rw [HD]; unfold tkV; rw [if_pos (by omega), if_pos (by omega)]
          rw [hv, ← cx] at h
          exact And.intro (by rw [ex]; exact vp_in_nI (by omega) (by decide)) h
      · have q0 : 0 ≤ b.toInt := by rw [mi_lt, c0] at q; omega
        have Bb : vp_in b 60 := vp_in_iff.mpr ⟨q0, by omega⟩
        refine And.intro (fun q2 => ?_) (fun q2 => ?_)
        · rw [mi_le, c60, tx] at q2
          have hv : tkn (I 73) D = I 73 b.toNatClampNeg := by rw [HD]; unfold tkV; rw [if_neg (by omega), if_neg (by omega)]; rfl
          rw [hv] at h
          refine And.intro (fun q3 => absurd q3 q) (fun q3 => ?_)
          exact And.intro Bb h
        · rw [mi_le, c60, tx] at q2
          have hv : tkn (I 73) D = (I 73 b.toNatClampNeg + I 73 j) / 2 := by rw [HD]; unfold tkV; rw [if_neg (by omega), if_pos (by omega)]; rfl
          rw [hv, ← cx] at h
          refine And.intro Bb ?_
          refine And.intro (by rw [ex]; exact vp_in_nI (by omega) (by decide)) ?_
          exact And.intro (by decide) h
    refine And.intro (fun q => ?_) (fun q => ?_)
    · exact EX (upw_60 (by omega)) _ (by omega)
    · exact absurd (mi_le.mpr (by rw [c60, tx]; omega)) q
  | succ k ih =>
    intro fu j x ex hj eu hf
    obtain ⟨fu, rfl⟩ : ∃ z, fu = z + 40 := ⟨fu - 40, by omega⟩
    have tx : x.toInt = j := by rw [ex]; exact nI_toInt (by omega)
    have cx : x.toNatClampNeg = j := by rw [ex]; exact nI_clamp (by omega)
    have EX : upw (I 73) j = j → ∀ fu, 40 ≤ fu → mv_wp (mv_wpM mv_tab mv_sh d) mv_sh none tbX8_taken flX8 csX8 1 (fun _ _ _ _ _ => False) Q fu 44 [some (.inr (.inr 12)), some (.inl day), some (.inl b), some (.inl x)] [] I J := by
      intro e2 fu hfu
      obtain ⟨fu, rfl⟩ : ∃ z, fu = z + 40 := ⟨fu - 40, by omega⟩
      have HD : tkn (I 73) D = tkV (I 73) b.toInt j := by unfold tkn; rw [eu, e2, eb]
      refine And.intro (fun q => ?_) (fun q => ?_)
      · have q0 : b.toInt < 0 := by rw [mi_lt, c0] at q; exact q
        refine And.intro (fun _ => ?_) (fun q9 => absurd q q9)
        refine And.intro (fun q2 => ?_) (fun q2 => ?_)
        · rw [mi_le, c60, tx] at q2
          have hv : tkn (I 73) D = 0 := by rw [HD]; unfold tkV; rw [if_pos (by omega), if_neg (by omega)]
          rw [hv] at h
          exact h
        · rw [mi_le, c60, tx] at q2
          have hv : tkn (I 73) D = I 73 j := by rw [HD]; unfold tkV; rw [if_pos (by omega), if_pos (by omega)]
          rw [hv, ← cx] at h
          exact And.intro (by rw [ex]; exact vp_in_nI (by omega) (by decide)) h
      · have q0 : 0 ≤ b.toInt := by rw [mi_lt, c0] at q; omega
        have Bb : vp_in b 60 := vp_in_iff.mpr ⟨q0, by omega⟩
        refine And.intro (fun q2 => ?_) (fun q2 => ?_)
        · rw [mi_le, c60, tx] at q2
          have hv : tkn (I 73) D = I 73 b.toNatClampNeg := by rw [HD]; unfold tkV; rw [if_neg (by omega), if_neg (by omega)]; rfl
          rw [hv] at h
          refine And.intro (fun q3 => absurd q3 q) (fun q3 => ?_)
          exact And.intro Bb h
        · rw [mi_le, c60, tx] at q2
          have hv : tkn (I 73) D = (I 73 b.toNatClampNeg + I 73 j) / 2 := by rw [HD]; unfold tkV; rw [if_neg (by omega), if_pos (by omega)]; rfl
          rw [hv, ← cx] at h
          refine And.intro Bb ?_
          refine And.intro (by rw [ex]; exact vp_in_nI (by omega) (by decide)) ?_
          exact And.intro (by decide) h
    refine And.intro (fun q => ?_) (fun q => ?_)
    · rw [mi_le, c60, tx] at q
      omega
    · refine And.intro (by rw [ex]; exact vp_in_nI (by omega) (by decide)) ?_
      refine And.intro (fun q2 => ?_) (fun q2 => ?_)
      · rw [cx] at q2
        exact EX (upw_no (fun z => nle0.mpr z q2)) _ (by omega)
      · rw [cx] at q2
        refine And.intro ?_ trivial
        exact ih _ (j + 1) _ (by rw [ex]; exact nI_1 j) (by omega) (by rw [eu, upw_go (by omega) (nle0.mp q2)]) (by omega)
set_option maxHeartbeats 1000000 in
theorem x_rtk1 {d : Nat} {day : Int32} {I : mv_I} {J : mv_J} {Q : mv_Q} {D : Nat} (hD : D < 60) (eD : day = nI D) (h : Q (some (.inl (tkn (I 73) D))) I J) : ∀ (k fu : Nat) (x : Int32) (y : Option mv_V), x.toInt = (k : Int) - 1 → k ≤ D + 1 → dnn (I 73) (D + 1) = dnn (I 73) k → 40 * (k + 1) + 2600 ≤ fu → mv_wp (mv_wpM mv_tab mv_sh d) mv_sh none tbX8_taken flX8 csX8 1 (fun _ _ _ _ _ => False) Q fu 2 [some (.inr (.inr 12)), some (.inl day), some (.inl x), y] [] I J := by
  have c0 : (0 : Int32).toInt = 0 := by decide
  intro k
  induction k with
  | zero =>
    intro fu x y ex hk ed hf
    obtain ⟨fu, rfl⟩ : ∃ z, fu = z + 40 := ⟨fu - 40, by omega⟩
    refine And.intro (fun q => ?_) (fun q => ?_)
    · refine And.intro ?_ trivial
      exact x_rtk2 hD (by rw [ed, ex]; show ((0 : Nat) : Int) - 1 = -1; omega) h (60 - D) _ D _ eD (by omega) rfl (by omega)
    · exact absurd (mi_lt.mpr (by rw [c0, ex]; omega)) q
  | succ k ih =>
    intro fu x y ex hk ed hf
    obtain ⟨fu, rfl⟩ : ∃ z, fu = z + 40 := ⟨fu - 40, by omega⟩
    have exk : x = nI k := mi_eq.mpr (by rw [nI_toInt (by omega)]; omega)
    have cx : x.toNatClampNeg = k := by rw [exk]; exact nI_clamp (by omega)
    have e1 : (x + -1).toInt = x.toInt - 1 := mi_dec (by omega)
    refine And.intro (fun q => ?_) (fun q => ?_)
    · rw [mi_lt, c0] at q
      omega
    · refine And.intro (by rw [exk]; exact vp_in_nI (by omega) (by decide)) ?_
      refine And.intro (fun q2 => ?_) (fun q2 => ?_)
      · rw [cx] at q2
        refine And.intro ?_ trivial
        refine x_rtk2 hD ?_ h (60 - D) _ D _ eD (by omega) rfl (by omega)
        have z : dnn (I 73) (k + 1) = k := if_neg (fun z => nle0.mpr z q2)
        rw [ed, z]
        omega
      · rw [cx] at q2
        refine And.intro ?_ trivial
        refine ih _ _ _ (by omega) (by omega) ?_ (by omega)
        have z : dnn (I 73) (k + 1) = dnn (I 73) k := if_pos (nle0.mp q2)
        rw [ed, z]
set_option maxHeartbeats 1000000 in
theorem e_rtaken {d : Nat} (hd : 1 ≤ d) (day : Int32) {I : mv_I} {J : mv_J} {Q : mv_Q} {D : Nat} (hD : D < 60) (eD : day = nI D) (h : Q (some (.inl (tkn (I 73) D))) I J) : mv_wpM mv_tab mv_sh d 111 [.inr (.inr 12), .inl day] I J Q := by
  obtain ⟨d, rfl⟩ : ∃ e, d = e + 1 := ⟨d - 1, by omega⟩
  refine (show ∃ fu9, mv_wp (mv_wpM mv_tab mv_sh d) mv_sh none tbX8_taken flX8 csX8 1 (fun _ _ _ _ _ => False) Q fu9 0 [some (.inr (.inr 12)), some (.inl day), none, none] [] I J from ?_)
  refine ⟨5200, ?_⟩
  refine And.intro ?_ trivial
  exact x_rtk1 hD eD h (D + 1) _ _ _ (by rw [eD, nI_toInt (by omega)]; omega) (Nat.le_refl _) rfl (Nat.le_trans (show 40 * (D + 1 + 1) + 2600 ≤ 5040 by omega) (Nat.le_of_ble_eq_true rfl))
def seR (a v r : Int32) : Prop := (¬ (0 ≤ a ∧ a ≤ 59) ∧ r = -1) ∨ ((0 ≤ a ∧ a ≤ 59) ∧ r = v)
theorem day_n {a : Int32} (p : 0 ≤ a ∧ a ≤ 59) : a.toNatClampNeg < 60 ∧ a = nI a.toNatClampNeg := by
  have h := mg_le p
  have c0 : (0 : Int32).toInt = 0 := by decide
  have c59 : (59 : Int32).toInt = 59 := by decide
  have h0 := h.1
  have h1 := h.2
  have k := mi_cl (x := a) (by omega)
  exact ⟨by omega, (mi_nI (by omega)).symm⟩
set_option maxHeartbeats 1000000 in
theorem E_sea {d : Nat} (hd : 4 ≤ d) (a : Int32) {I : mv_I} {J : mv_J} {Q : mv_Q} (sc : SC I) (h : ∀ (r : Int32), seR a (tkn (I 38) a.toNatClampNeg) r → Q (some (.inl r)) I J) : mv_wpM mv_tab mv_sh d 70 [.inr (.inr 0), .inl a] I J Q := by
  obtain ⟨d, rfl⟩ : ∃ e, d = e + 1 := ⟨d - 1, by omega⟩
  refine (show ∃ fu9, mv_wp (mv_wpM mv_tab mv_sh d) mv_sh none tbX7_sea flX7 csX7 1 (fun _ _ _ _ _ => False) Q fu9 0 [some (.inr (.inr 0)), some (.inl a)] [] I J from ?_)
  refine ⟨60, ?_⟩
  refine c_isDay (by omega) a (fun p1 => ?_) (fun p1 => ?_)
  · first | refine And.intro (fun z => absurd z (by decide)) (fun _ => ?_) | refine And.intro (fun _ => ?_) (fun z => absurd z (by decide))
    exact e_taken (by omega) a (day_n p1).1 (day_n p1).2 (h _ (Or.inr ⟨p1, rfl⟩))
  · first | refine And.intro (fun z => absurd z (by decide)) (fun _ => ?_) | refine And.intro (fun _ => ?_) (fun z => absurd z (by decide))
    exact h _ (Or.inl ⟨p1, rfl⟩)
set_option maxHeartbeats 1000000 in
theorem E2_sea {d : Nat} (hd : 4 ≤ d) (a : Int32) {I : mv_I} {J : mv_J} {Q : mv_Q} (sm : SM I) (h : ∀ (r : Int32), seR a (tkn (I 73) a.toNatClampNeg) r → Q (some (.inl r)) I J) : mv_wpM mv_tab mv_sh d 112 [.inr (.inr 12), .inl a] I J Q := by
  obtain ⟨d, rfl⟩ : ∃ e, d = e + 1 := ⟨d - 1, by omega⟩
  refine (show ∃ fu9, mv_wp (mv_wpM mv_tab mv_sh d) mv_sh none tbX8_sea flX8 csX8 1 (fun _ _ _ _ _ => False) Q fu9 0 [some (.inr (.inr 12)), some (.inl a)] [] I J from ?_)
  refine ⟨60, ?_⟩
  refine c_in (by omega) a 0 59 (fun p1 => ?_) (fun p1 => ?_)
  · first | refine And.intro (fun z => absurd z (by decide)) (fun _ => ?_) | refine And.intro (fun _ => ?_) (fun z => absurd z (by decide))
    exact e_rtaken (by omega) a (day_n p1).1 (day_n p1).2 (h _ (Or.inr ⟨p1, rfl⟩))
  · first | refine And.intro (fun z => absurd z (by decide)) (fun _ => ?_) | refine And.intro (fun _ => ?_) (fun z => absurd z (by decide))
    exact h _ (Or.inl ⟨p1, rfl⟩)
theorem eq_sea {a r1 r2 : Int32} {I : mv_I} (hR : LR I) (p1 : seR a (tkn (I 38) a.toNatClampNeg) r1) (p2 : seR a (tkn (I 73) a.toNatClampNeg) r2) : r1 = r2 := by
  obtain ⟨hw, hn, ht, hb, hk, hs, hl_, hh_, hi, hf⟩ := hR
  rcases p1 with ⟨n1, e1⟩ | ⟨o1, e1⟩
  · rcases p2 with ⟨n2, e2⟩ | ⟨o2, e2⟩
    · exact e1.trans e2.symm
    · exact absurd o2 n1
  · rcases p2 with ⟨n2, e2⟩ | ⟨o2, e2⟩
    · exact absurd o1 n2
    · rw [e1, e2]
      exact tkn_eq hf (day_n o1).1
