theorem mr_rw.mono {f : Nat → Int32} {s t : Int32} {n : Nat} (h : mr_rw f s n) (hs : s.toInt ≤ t.toInt) : mr_rw f t n := ⟨fun z hz => ⟨(h.1 z hz).1, Int.lt_of_lt_of_le (h.1 z hz).2 hs⟩, h.2⟩
theorem mr_rw.push {f : Nat → Int32} {x t : Int32} {n : Nat} (h : mr_rw f x n) (hx : 0 ≤ x.toInt) (ht : x.toInt < t.toInt) : mr_rw (upd f n x) t (n + 1) := by
  have e1 : ∀ z, z < n → upd f n x z = f z := fun z hz => by
    unfold upd
    rw [if_neg (Nat.ne_of_lt hz)]
  have e2 : upd f n x n = x := by unfold upd; rw [if_pos rfl]
  refine ⟨fun z hz => ?_, fun y z hy hz e => ?_⟩
  · by_cases z1 : z = n
    · rw [z1, e2]; exact ⟨hx, ht⟩
    · rw [e1 z (by omega)]
      have := h.1 z (by omega)
      exact ⟨this.1, by omega⟩
  · by_cases y1 : y = n
    · by_cases z1 : z = n
      · rw [y1, z1]
      · rw [y1, e2, e1 z (by omega)] at e
        have := (h.1 z (by omega)).2
        rw [← e] at this
        exact absurd this (by omega)
    · by_cases z1 : z = n
      · rw [z1, e2, e1 y (by omega)] at e
        have := (h.1 y (by omega)).2
        rw [e] at this
        exact absurd this (by omega)
      · rw [e1 y (by omega), e1 z (by omega)] at e
        exact h.2 y z (by omega) (by omega) e
set_option maxHeartbeats 1000000 in
theorem l_rlay1 {d : Nat} (hd : 4 ≤ d) {a : Int32} {J : mv_J} {Q : mv_Q} {I0 : mv_I} (hF : mr_fl I0) (h : ∀ (r : Int32) (I' : mv_I), mg_f2 [74, 75, 76, 77, 78, 79, 80, 81] [(12, 37)] I0 I' → Q (some (.inl r)) I' J) : ∀ (k fu : Nat) (n x : Int32) (I : mv_I), 0 ≤ n.toInt → n.toInt ≤ x.toInt → x.toInt ≤ (I0 12 24).toInt → mg_f2 [74, 75, 76, 77, 78, 79, 80, 81] [(12, 37)] I0 I → mr_rw (I 74) x n.toNatClampNeg → ((I0 12 24).toInt - x.toInt).toNat < k → 60 * k + 2799600 ≤ fu → mv_wp (mv_wpM mv_tab mv_sh d) mv_sh none tbX8_lay flX8 csX8 1 (fun _ _ _ _ _ => False) Q fu 22 [some (.inr (.inr 12)), some (.inl a), some (.inl n), some (.inl x), none, none] [] I J := by
  intro k
  induction k with
  | zero => intro fu n x I h0 h1 h2 h3 h4 h5 hf; omega
  | succ k ih =>
    intro fu n x I h0 h1 h2 h3 h4 h5 hf
    obtain ⟨fu, rfl⟩ : ∃ z, fu = z + 60 := ⟨fu - 60, by omega⟩
    have hs := hF.1.2
    have ec : I 12 24 = I0 12 24 := h3 12 24 rfl rfl
    have kn := mi_cl h0
    refine And.intro (fun q => ?_) (fun q => ?_)
    · have w1 : mr_rw (I 74) (I0 12 24) n.toNatClampNeg := h4.mono h2
      have w2 : rg n 0 6 := ⟨h0, by omega⟩
      have w3 : 46656 - mr_rk (I 74) n.toNatClampNeg < 46657 := by omega
      refine And.intro ?_ trivial
      exact l_rlay2 hd w2 hF h 46657 _ _ _ _ _ h3 w1 (by decide) (Or.inr w3) (by omega)
    · have qx : x.toInt < (I0 12 24).toInt := by rw [ec] at q; (try simp only [mi_le, mi_lt, mi_eq] at *); have := mi_l; omega
      have hx0 : 0 ≤ x.toInt := by omega
      have e1 := mi_incl qx
      have ht : x.toInt < (x + 1).toInt := by omega
      have G1 : (x + 1).toInt ≤ (I0 12 24).toInt := by omega
      have G5 : ((I0 12 24).toInt - (x + 1).toInt).toNat < k := by omega
      refine And.intro (fun _ => ?_) (fun _ => ?_)
      · have w1 : mr_rw (I 74) (x + 1) n.toNatClampNeg := h4.mono (Int.le_of_lt ht)
        refine And.intro ?_ trivial
        exact ih _ _ _ _ h0 (by omega) G1 h3 w1 G5 (by omega)
      · have en := mi_inc (x := n) (n := 6) (by omega) (by omega)
        have kn1 := mi_cl (x := n + 1) (by omega)
        have ek : (n + 1).toNatClampNeg = n.toNatClampNeg + 1 := by omega
        have w1 : mr_rw (upd (I 74) n.toNatClampNeg x) (x + 1) (n + 1).toNatClampNeg := by rw [ek]; exact h4.push hx0 ht
        have G0 : 0 ≤ (n + 1).toInt := by omega
        have G2 : (n + 1).toInt ≤ (x + 1).toInt := by omega
        refine And.intro (vp_in_iff.mpr ⟨by omega, by omega⟩) ?_
        refine And.intro ?_ trivial
        exact ih _ _ _ _ G0 G2 G1 (mg_f2.up h3 rfl) w1 G5 (by omega)
set_option maxHeartbeats 1000000 in
theorem G_lay {d : Nat} (hd : 6 ≤ d) (a : Int32) {I : mv_I} {J : mv_J} {Q : mv_Q} (sm : SM I) (h : ∀ (r : Int32) (I' : mv_I) (J' : mv_J), SM I' → mg_f2 [74, 75, 76, 77, 78, 79, 80, 81] [(12, 37)] I I' → Q (some (.inl r)) I' J') : mv_wpM mv_tab mv_sh d 120 [.inr (.inr 12), .inl a] I J Q := by
  obtain ⟨d, rfl⟩ : ∃ e, d = e + 1 := ⟨d - 1, by omega⟩
  refine (show ∃ fu9, mv_wp (mv_wpM mv_tab mv_sh d) mv_sh none tbX8_lay flX8 csX8 1 (fun _ _ _ _ _ => False) Q fu9 0 [some (.inr (.inr 12)), some (.inl a), none, none, none, none] [] I J from ?_)
  refine ⟨2800200, ?_⟩
  obtain ⟨t1, t2, t3, t4, t5, t6, t7, t8, t9, t10⟩ := id sm
  refine c_in (by omega) a 1 _ (fun p => ?_) (fun p => ?_)
  · first | refine And.intro (fun z => absurd z (by decide)) (fun _ => ?_) | refine And.intro (fun _ => ?_) (fun z => absurd z (by decide))
    refine And.intro ?_ trivial
    refine l_rlay1 (by omega) t7 (fun r I2 f => ?_) 7 _ _ _ _ (by decide) (by decide) t7.1.1 mg_f2.rf ⟨fun z hz => absurd hz (by have : (0 : Int32).toNatClampNeg = 0 := (by decide); omega), fun y z hy _ _ => absurd hy (by have : (0 : Int32).toNatClampNeg = 0 := (by decide); omega)⟩ (by have := t7.1.2; have : (0 : Int32).toInt = 0 := (by decide); omega) (Nat.le_of_ble_eq_true rfl)
    exact h _ _ _ ⟨(show rg (_ : Int32) _ _ by rw [f 12 3 rfl rfl]; exact t1), (show rg (_ : Int32) _ _ by rw [f 12 0 rfl rfl]; exact t2), (show rg (_ : Int32) _ _ by rw [f 12 11 rfl rfl]; exact t3), (show rg (_ : Int32) _ _ by rw [f 12 20 rfl rfl]; exact t4), (show rg (_ : Int32) _ _ by rw [f 12 4 rfl rfl]; exact t5), (fun j => (by rw [f 53 j rfl rfl]; exact t6 j)), (t7.kp (f 12 24 rfl rfl) (f2_fn (c := 67) f rfl (fun _ => rfl)) (f2_fn (c := 68) f rfl (fun _ => rfl)) (f2_fn (c := 69) f rfl (fun _ => rfl))), ⟨(fun j => (by rw [f 82 j rfl rfl]; exact t8.1 j)), (fun j => (by rw [f 83 j rfl rfl]; exact t8.2 j))⟩, (fun j => (by rw [f 59 j rfl rfl, f 60 j rfl rfl]; exact t9 j)), ⟨(t10.1.kp (f 12 0 rfl rfl) (f2_fn (c := 51) f rfl (fun _ => rfl))), (show rg (_ : Int32) _ _ by rw [f 12 10 rfl rfl]; exact t10.2)⟩⟩ f
  · first | refine And.intro (fun z => absurd z (by decide)) (fun _ => ?_) | refine And.intro (fun _ => ?_) (fun z => absurd z (by decide))
    exact h _ _ _ sm mg_f2.rf

