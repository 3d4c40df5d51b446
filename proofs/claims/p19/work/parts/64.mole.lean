def mg_fl (I : mv_I) : Prop := rg (I 4 7) 0 6 ∧ (∀ j, rg (I 31 j) 0 59) ∧ (∀ j, rg (I 32 j) 0 20000 ∧ rg (I 33 j) 0 2000) ∧ (∀ j : Nat, (j : Int) < (I 4 7).toInt → 1 ≤ (I 32 j).toInt ∧ 1 ≤ (I 33 j).toInt)
def mg_ld (I : mv_I) : Prop := rg (I 5 4) 0 60 ∧ (∀ j : Nat, j < 60 → rg (I 40 j) 0 60)
def mg_of (x n : Int32) : Prop := 0 ≤ x.toInt ∧ (x.toInt = 0 ∨ x.toInt < n.toInt)
def mg_or (I : mv_I) : Prop := (∀ j, mg_of (I 45 j) (I 4 7)) ∧ (∀ j, mg_of (I 46 j) (I 4 7))
theorem mg_fl.kp {I I' : mv_I} (h : mg_fl I) (e4 : I' 4 7 = I 4 7) (e1 : I' 31 = I 31) (e2 : I' 32 = I 32) (e3 : I' 33 = I 33) : mg_fl I' := by
  unfold mg_fl at *
  rw [e4, e1, e2, e3]
  exact h
theorem mg_ld.kp {I I' : mv_I} (h : mg_ld I) (e4 : I' 5 4 = I 5 4) (e1 : I' 40 = I 40) : mg_ld I' := by
  unfold mg_ld at *
  rw [e4, e1]
  exact h
theorem mg_fl.of {I : mv_I} (h : mg_fl I) {a : Int32} (ha : 0 ≤ a.toInt) (h2 : a.toInt < (I 4 7).toInt) : rg a 0 5 ∧ rg (I 32 a.toNatClampNeg) 1 20000 ∧ rg (I 33 a.toNatClampNeg) 1 2000 := by
  obtain ⟨f1, f2, f3, f4⟩ := h
  have e := mi_cl ha
  have h3 := f4 a.toNatClampNeg (by omega)
  have h4 := f3 a.toNatClampNeg
  have := f1.2
  exact ⟨⟨ha, by omega⟩, ⟨h3.1, h4.1.2⟩, ⟨h3.2, h4.2.2⟩⟩
theorem f2_fn {S : List Nat} {T : List (Nat × Nat)} {I I' : mv_I} (h : mg_f2 S T I I') {c : Nat} (hs : S.elem c = false) (ht : ∀ j, T.elem (c, j) = false) : I' c = I c := funext fun j => h c j hs (ht j)
set_option maxHeartbeats 1000000 in
theorem l_seek {d : Nat} (hd : 1 ≤ d) {m : Nat} (IH : ∀ (wt dp le sp : Int32) (I : mv_I) (J : mv_J) (Q : mv_Q), rg dp 0 6 → (6 - dp.toInt).toNat ≤ m → mg_fl I → mg_ld I → mg_or I → (∀ I', mg_f2 [45, 46] [(6, 7)] I I' → mg_or I' → Q none I' J) → mv_wpM mv_tab mv_sh d 16 [.inr (.inr 6), .inr (.inr 4), .inr (.inr 5), .inl wt, .inl dp, .inl le, .inl sp] I J Q) {wt dp le sp : Int32} {J : mv_J} {Q : mv_Q} {I0 : mv_I} (hdp : rg dp 0 5) (hm : (6 - dp.toInt).toNat ≤ m + 1) (hF : mg_fl I0) (hL : mg_ld I0) (h : ∀ I', mg_f2 [45, 46] [(6, 7)] I0 I' → mg_or I' → Q none I' J) : ∀ (k fu : Nat) (x : Int32) (y z : Option mv_V) (I : mv_I), 0 ≤ x.toInt → mg_f2 [45, 46] [(6, 7)] I0 I → mg_or I → ((I0 4 7).toInt - x.toInt).toNat < k → 100 * k ≤ fu → mv_wp (mv_wpM mv_tab mv_sh d) mv_sh none tbX2_seek flX2 csX2 0 (fun _ _ _ _ _ => False) Q fu 37 [some (.inr (.inr 6)), some (.inr (.inr 4)), some (.inr (.inr 5)), some (.inl wt), some (.inl dp), some (.inl le), some (.inl sp), some (.inl x), y, z] [] I J := by
  intro k
  induction k with
  | zero => intro fu x y z I h0 h1 h2 h3 hf; omega
  | succ k ih =>
    intro fu x y z I h0 h1 h2 h3 hf
    obtain ⟨fu, rfl⟩ : ∃ z, fu = z + 100 := ⟨fu - 100, by omega⟩
    have ec : I 4 7 = I0 4 7 := h1 4 7 rfl rfl
    have hFI : mg_fl I := (hF.kp (h1 4 7 rfl rfl) (f2_fn h1 rfl (fun _ => rfl)) (f2_fn h1 rfl (fun _ => rfl)) (f2_fn h1 rfl (fun _ => rfl)))
    have hLI : mg_ld I := (hL.kp (h1 5 4 rfl rfl) (f2_fn h1 rfl (fun _ => rfl)))
    obtain ⟨d0, d1⟩ := id hdp
    refine And.intro (fun q => ?_) (fun q => ?_)
    · exact h _ h1 h2
    · have qx : x.toInt < (I0 4 7).toInt := by rw [ec] at q; (try simp only [mi_le, mi_lt, mi_eq] at *); have := mi_l; omega
      have e1 := mi_incl qx
      have N : ∀ (fu : Nat) (y z : Option mv_V) (I2 : mv_I), 100 * k ≤ fu → mg_f2 [45, 46] [(6, 7)] I0 I2 → mg_or I2 → mv_wp (mv_wpM mv_tab mv_sh d) mv_sh none tbX2_seek flX2 csX2 0 (fun _ _ _ _ _ => False) Q fu 37 [some (.inr (.inr 6)), some (.inr (.inr 4)), some (.inr (.inr 5)), some (.inl wt), some (.inl dp), some (.inl le), some (.inl sp), some (.inl (x + 1)), y, z] [] I2 J := fun fu y z I2 g1 g2 g3 => ih _ _ _ _ _ (by omega) g2 g3 (by omega) g1
      obtain ⟨o1, o2, o3⟩ := hFI.of h0 (by rw [ec]; exact qx)
      refine And.intro (fun _ => ?_) (fun _ => ?_)
      · refine s_turnBehind (by omega) _ _ o1 hFI.2.1 (fun r hr => ?_)
        refine s_loadingDays (by omega) _ o1 o2 o3 (fun r2 hr2 => ?_)
        refine s_endFrom (by omega) _ _ hr hr2 hLI.1 hLI.2 (fun r3 => ?_)
        refine And.intro (fun _ => ?_) (fun _ => ?_)
        · refine s_costOf (by omega) _ _ o1 (fun r4 => ?_)
          refine And.intro (fun _ => ?_) (fun _ => ?_)
          · refine And.intro ?_ trivial
            exact N _ _ _ _ (by omega) h1 h2
          · have Bd : vp_in dp 6 := vp_in_iff.mpr ⟨by omega, by omega⟩
            refine And.intro Bd ?_
            have e9 := mi_inc (x := dp) (n := 6) (by omega) (by omega)
            have f9 : mg_f2 [45, 46] [(6, 7)] I0 (va_up I 45 (upd (I 45) dp.toNatClampNeg x)) := mg_f2.up h1 rfl
            have g9 : mg_or (va_up I 45 (upd (I 45) dp.toNatClampNeg x)) := ⟨fun j => by
              show mg_of (upd (I 45) dp.toNatClampNeg x j) (I 4 7)
              unfold upd
              by_cases hj : j = dp.toNatClampNeg
              · rw [if_pos hj]; exact ⟨h0, Or.inr (by rw [ec]; exact qx)⟩
              · rw [if_neg hj]; exact h2.1 j, h2.2⟩
            refine IH _ _ _ _ _ _ _ ⟨by omega, by omega⟩ (by omega) (hF.kp (f9 4 7 rfl rfl) (f2_fn f9 rfl (fun _ => rfl)) (f2_fn f9 rfl (fun _ => rfl)) (f2_fn f9 rfl (fun _ => rfl))) (hL.kp (f9 5 4 rfl rfl) (f2_fn f9 rfl (fun _ => rfl))) g9 (fun I5 f5 g5 => ?_)
            refine And.intro ?_ trivial
            exact N _ _ _ _ (by omega) (f9.tr f5) g5
        · refine And.intro ?_ trivial
          exact N _ _ _ _ (by omega) h1 h2
      · refine And.intro ?_ trivial
        exact N _ _ _ _ (by omega) h1 h2
set_option maxHeartbeats 1000000 in
theorem s_seek : ∀ (m d : Nat) (wt dp le sp : Int32) (I : mv_I) (J : mv_J) (Q : mv_Q), m + 2 ≤ d → rg dp 0 6 → (6 - dp.toInt).toNat ≤ m → mg_fl I → mg_ld I → mg_or I → (∀ I', mg_f2 [45, 46] [(6, 7)] I I' → mg_or I' → Q none I' J) → mv_wpM mv_tab mv_sh d 16 [.inr (.inr 6), .inr (.inr 4), .inr (.inr 5), .inl wt, .inl dp, .inl le, .inl sp] I J Q := by
  intro m
  induction m with
  | zero =>
    intro d wt dp le sp I J Q hd hdp hm hF hL hO h
    obtain ⟨d, rfl⟩ : ∃ e, d = e + 1 := ⟨d - 1, by omega⟩
    obtain ⟨d0, d1⟩ := id hdp
    refine (show ∃ fu9, mv_wp (mv_wpM mv_tab mv_sh d) mv_sh none tbX2_seek flX2 csX2 0 (fun _ _ _ _ _ => False) Q fu9 0 [some (.inr (.inr 6)), some (.inr (.inr 4)), some (.inr (.inr 5)), some (.inl wt), some (.inl dp), some (.inl le), some (.inl sp), none, none, none] [] I J from ?_)
    refine ⟨60, ?_⟩
    refine And.intro (fun q => ?_) (fun q => ?_)
    · refine And.intro (fun q => absurd q (fun q => by (try simp only [mi_le, mi_lt, mi_eq] at *); have := mi_l; omega)) (fun q => ?_)
      exact h _ mg_f2.rf hO
    · have ed := mi_cl d0
      refine And.intro (by decide) (And.intro (by decide) (And.intro (by (try simp only [mi_le, mi_lt, mi_eq] at *); have := mi_l; omega) (And.intro ?_ (And.intro ?_ ?_))))
      · show (0 : Int32).toNatClampNeg + dp.toNatClampNeg ≤ 6
        have : (0 : Int32).toNatClampNeg = 0 := by decide
        omega
      · show (0 : Int32).toNatClampNeg + dp.toNatClampNeg ≤ 6
        have : (0 : Int32).toNatClampNeg = 0 := by decide
        omega
      · refine h _ (mg_f2.up (mg_f2.uf mg_f2.rf rfl) rfl) ⟨hO.1, fun j => ?_⟩
        show mg_of (va_cpy (I 45) (I 46) _ _ _ j) (I 4 7)
        unfold va_cpy
        by_cases hj : (0 : Int32).toNatClampNeg ≤ j ∧ j < (0 : Int32).toNatClampNeg + dp.toNatClampNeg
        · rw [if_pos hj]; exact hO.1 _
        · rw [if_neg hj]; exact hO.2 j
  | succ m ih =>
    intro d wt dp le sp I J Q hd hdp hm hF hL hO h
    obtain ⟨d, rfl⟩ : ∃ e, d = e + 1 := ⟨d - 1, by omega⟩
    obtain ⟨d0, d1⟩ := id hdp
    refine (show ∃ fu9, mv_wp (mv_wpM mv_tab mv_sh d) mv_sh none tbX2_seek flX2 csX2 0 (fun _ _ _ _ _ => False) Q fu9 0 [some (.inr (.inr 6)), some (.inr (.inr 4)), some (.inr (.inr 5)), some (.inl wt), some (.inl dp), some (.inl le), some (.inl sp), none, none, none] [] I J from ?_)
    refine ⟨1000, ?_⟩
    refine And.intro (fun q => ?_) (fun q => ?_)
    · refine And.intro (fun q => ?_) (fun q => ?_)
      · refine And.intro ?_ trivial
        exact l_seek (by omega) (fun wt dp le sp I J Q => ih d wt dp le sp I J Q (by omega)) ⟨d0, by (try simp only [mi_le, mi_lt, mi_eq] at *); have := mi_l; omega⟩ hm hF hL h 7 _ _ _ _ _ (by decide) mg_f2.rf hO (by have := hF.1.2; have := mi_l; omega) (Nat.le_of_ble_eq_true rfl)
      · exact h _ mg_f2.rf hO
    · have ed := mi_cl d0
      refine And.intro (by decide) (And.intro (by decide) (And.intro (by (try simp only [mi_le, mi_lt, mi_eq] at *); have := mi_l; omega) (And.intro ?_ (And.intro ?_ ?_))))
      · show (0 : Int32).toNatClampNeg + dp.toNatClampNeg ≤ 6
        have : (0 : Int32).toNatClampNeg = 0 := by decide
        omega
      · show (0 : Int32).toNatClampNeg + dp.toNatClampNeg ≤ 6
        have : (0 : Int32).toNatClampNeg = 0 := by decide
        omega
      · refine h _ (mg_f2.up (mg_f2.uf mg_f2.rf rfl) rfl) ⟨hO.1, fun j => ?_⟩
        show mg_of (va_cpy (I 45) (I 46) _ _ _ j) (I 4 7)
        unfold va_cpy
        by_cases hj : (0 : Int32).toNatClampNeg ≤ j ∧ j < (0 : Int32).toNatClampNeg + dp.toNatClampNeg
        · rw [if_pos hj]; exact hO.1 _
        · rw [if_neg hj]; exact hO.2 j
set_option maxRecDepth 100000 in
set_option maxHeartbeats 1000000 in
theorem s_bitCount {d : Nat} (hd : 1 ≤ d) (a : Int32) {I : mv_I} {J : mv_J} {Q : mv_Q} (ha : rg a 0 63) (h : ∀ r : Int32, rg r 0 6 → Q (some (.inl r)) I J) : mv_wpM mv_tab mv_sh d 17 [.inl a] I J Q := by
  obtain ⟨d, rfl⟩ : ∃ e, d = e + 1 := ⟨d - 1, by omega⟩
  refine (show ∃ fu9, mv_wp (mv_wpM mv_tab mv_sh d) mv_sh none tbJ6_bitCount_0f7a4 flJ6 csJ6 1 (fun _ _ _ _ _ => False) Q fu9 0 [some (.inl a)] [] I J from ?_)
  refine ⟨60, ?_⟩
  refine h _ ?_
  have ha0 := ha.1
  obtain ⟨j, hj, rfl⟩ := nI_of (x := a) (by simp only [mi_lt]; have := mi_l; omega)
  have h2 : j < 64 := by have h3 := ha.2; rw [nI_toInt hj] at h3; omega
  clear hj ha ha0 h
  unfold rg
  revert j
  decide +kernel

set_option maxHeartbeats 1000000 in
theorem l_keep {d : Nat} (hd : 1 ≤ d) {n : Int32} {J : mv_J} {Q : mv_Q} {I0 : mv_I} (hn : rg n 0 6) (hc : 1 ≤ (I0 4 7).toInt) (hF : mg_fl I0) (hL : mg_ld I0) (hO : mg_or I0) (h : ∀ I', mg_f2 [41, 42, 43, 44] [(6, 4)] I0 I' → Q none I' J) : ∀ (k fu : Nat) (le x : Int32) (y : Option mv_V) (I : mv_I), 0 ≤ x.toInt → mg_f2 [41, 42, 43, 44] [(6, 4)] I0 I → (n.toInt - x.toInt).toNat < k → 100 * k ≤ fu → mv_wp (mv_wpM mv_tab mv_sh d) mv_sh none tbX2_keepCheapest flX2 csX2 0 (fun _ _ _ _ _ => False) Q fu 14 [some (.inr (.inr 6)), some (.inr (.inr 4)), some (.inr (.inr 5)), some (.inl n), some (.inl le), some (.inl x), y] [] I J := by
  intro k
  induction k with
  | zero => intro fu le x y I h0 h1 h2 hf; omega
  | succ k ih =>
    intro fu le x y I h0 h1 h2 hf
    obtain ⟨fu, rfl⟩ : ∃ z, fu = z + 100 := ⟨fu - 100, by omega⟩
    obtain ⟨n0, n1⟩ := id hn
    refine And.intro (fun q => ?_) (fun q => ?_)
    · exact And.intro (Or.inr rfl) (h _ (mg_f2.uf h1 rfl))
    · have qx : x.toInt < n.toInt := by (try simp only [mi_le, mi_lt, mi_eq] at *); have := mi_l; omega
      have e1 := mi_incl qx
      have ec : I 4 7 = I0 4 7 := h1 4 7 rfl rfl
      have hFI : mg_fl I := (hF.kp (h1 4 7 rfl rfl) (f2_fn h1 rfl (fun _ => rfl)) (f2_fn h1 rfl (fun _ => rfl)) (f2_fn h1 rfl (fun _ => rfl)))
      have hLI : mg_ld I := (hL.kp (h1 5 4 rfl rfl) (f2_fn h1 rfl (fun _ => rfl)))
      have hs : mg_of (I 46 x.toNatClampNeg) (I0 4 7) := by rw [h1 46 _ rfl rfl]; exact hO.2 _
      obtain ⟨hs0, hs1⟩ := hs
      refine And.intro (vp_in_iff.mpr ⟨by omega, by omega⟩) ?_
      generalize hse : I 46 x.toNatClampNeg = sp at *
      obtain ⟨o1, o2, o3⟩ := hFI.of hs0 (by rw [ec]; omega)
      have Bs : vp_in sp 6 := vp_in_iff.mpr ⟨hs0, by have := o1.2; omega⟩
      refine And.intro Bs ?_
      refine s_turnBehind (by omega) _ _ o1 hFI.2.1 (fun r hr => ?_)
      refine And.intro Bs ?_
      refine And.intro Bs ?_
      refine s_loadingDays (by omega) _ o1 o2 o3 (fun r2 hr2 => ?_)
      refine s_endFrom (by omega) _ _ (show 0 ≤ (upd _ sp.toNatClampNeg r sp.toNatClampNeg).toInt by unfold upd; rw [if_pos rfl]; exact hr) hr2 hLI.1 hLI.2 (fun r3 => ?_)
      refine And.intro Bs ?_
      refine And.intro Bs ?_
      refine s_costOf (by omega) _ _ o1 (fun r4 => ?_)
      refine And.intro Bs ?_
      refine And.intro Bs ?_
      refine And.intro ?_ trivial
      exact ih _ _ _ _ _ (by omega) (by repeat (first | exact mg_f2.rf | assumption | refine mg_f2.up ?_ rfl | refine mg_f2.uf ?_ rfl)) (by omega) (by omega)
set_option maxHeartbeats 1000000 in
theorem s_keep {d : Nat} (hd : 2 ≤ d) (n : Int32) {I : mv_I} {J : mv_J} {Q : mv_Q} (hn : rg n 0 6) (hc : 1 ≤ (I 4 7).toInt) (hF : mg_fl I) (hL : mg_ld I) (hO : mg_or I) (h : ∀ I', mg_f2 [41, 42, 43, 44] [(6, 4)] I I' → Q none I' J) : mv_wpM mv_tab mv_sh d 19 [.inr (.inr 6), .inr (.inr 4), .inr (.inr 5), .inl n] I J Q := by
  obtain ⟨d, rfl⟩ : ∃ e, d = e + 1 := ⟨d - 1, by omega⟩
  refine (show ∃ fu9, mv_wp (mv_wpM mv_tab mv_sh d) mv_sh none tbX2_keepCheapest flX2 csX2 0 (fun _ _ _ _ _ => False) Q fu9 0 [some (.inr (.inr 6)), some (.inr (.inr 4)), some (.inr (.inr 5)), some (.inl n), none, none, none] [] I J from ?_)
  refine ⟨800, ?_⟩
  refine c_fill41 (by omega) (-1) ?_
  refine And.intro ?_ trivial
  exact l_keep (by omega) hn hc hF hL hO h 7 _ _ _ _ _ (by decide) (by repeat (first | exact mg_f2.rf | assumption | refine mg_f2.up ?_ rfl | refine mg_f2.uf ?_ rfl)) (by obtain ⟨n0, n1⟩ := hn; have := mi_l; omega) (Nat.le_of_ble_eq_true rfl)

set_option maxHeartbeats 1000000 in
theorem s_layCheapest {d : Nat} (hd : 9 ≤ d) (a : Int32) {I : mv_I} {J : mv_J} {Q : mv_Q} (ha : rg a 1 63) (hc : 1 ≤ (I 4 7).toInt) (hF : mg_fl I) (hO : mg_or I) (h : ∀ (r : Int32) (I' : mv_I), mg_f2 [39, 40, 41, 42, 43, 44, 45, 46] [(5, 4), (5, 5), (6, 4), (6, 7)] I I' → mg_or I' → Q (some (.inl r)) I' J) : mv_wpM mv_tab mv_sh d 20 [.inr (.inr 6), .inr (.inr 4), .inr (.inr 5), .inl a] I J Q := by
  obtain ⟨d, rfl⟩ : ∃ e, d = e + 1 := ⟨d - 1, by omega⟩
  refine (show ∃ fu9, mv_wp (mv_wpM mv_tab mv_sh d) mv_sh none tbX2_layCheapest flX2 csX2 1 (fun _ _ _ _ _ => False) Q fu9 0 [some (.inr (.inr 6)), some (.inr (.inr 4)), some (.inr (.inr 5)), some (.inl a)] [] I J from ?_)
  refine ⟨60, ?_⟩
  refine s_cld (by omega) (fun I2 f2 l2 b2 => ?_)
  have g2 : mg_f2 [39, 40, 41, 42, 43, 44, 45, 46] [(5, 4), (5, 5), (6, 4), (6, 7)] I (va_up I2 6 (upd (I2 6) 7 1000000000)) := mg_f2.uf (f2.mono rfl rfl) rfl
  have hO2 : mg_or (va_up I2 6 (upd (I2 6) 7 1000000000)) := by
    unfold mg_or at *
    rw [g2 4 7 rfl rfl]
    exact ⟨fun j => by show mg_of (I2 45 j) _; rw [f2 45 j rfl rfl]; exact hO.1 j, fun j => by show mg_of (I2 46 j) _; rw [f2 46 j rfl rfl]; exact hO.2 j⟩
  have hF2 : mg_fl (va_up I2 6 (upd (I2 6) 7 1000000000)) := hF.kp (f2 4 7 rfl rfl) (f2_fn f2 rfl (fun _ => rfl)) (f2_fn f2 rfl (fun _ => rfl)) (f2_fn f2 rfl (fun _ => rfl))
  refine s_seek 6 _ _ _ _ _ _ _ _ (by omega) ⟨by decide, by decide⟩ (by decide) hF2 ⟨l2, b2⟩ hO2 (fun I3 f3 o3 => ?_)
  have g3 : mg_f2 [39, 40, 41, 42, 43, 44, 45, 46] [(5, 4), (5, 5), (6, 4), (6, 7)] I I3 := g2.tr (f3.mono rfl rfl)
  refine And.intro (fun q => ?_) (fun q => ?_)
  · refine s_bitCount (by omega) _ ⟨by have := ha.1; omega, ha.2⟩ (fun r hr => ?_)
    refine s_keep (by omega) _ hr (by rw [g3 4 7 rfl rfl]; exact hc) (hF.kp (g3 4 7 rfl rfl) (f2_fn g3 rfl (fun _ => rfl)) (f2_fn g3 rfl (fun _ => rfl)) (f2_fn g3 rfl (fun _ => rfl))) (mg_ld.kp (I := I2) ⟨l2, b2⟩ (f3 5 4 rfl rfl) (f2_fn f3 rfl (fun _ => rfl))) o3 (fun I4 f4 => ?_)
    refine h _ _ (g3.tr (f4.mono rfl rfl)) ?_
    unfold mg_or at *
    rw [f4 4 7 rfl rfl, f2_fn (c := 45) f4 rfl (fun _ => rfl), f2_fn (c := 46) f4 rfl (fun _ => rfl)]
    exact o3
  · exact h _ _ g3 o3

