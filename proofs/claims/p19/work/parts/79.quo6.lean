set_option maxHeartbeats 1000000 in
theorem l_quC {d : Nat} (hd : 1 ≤ d) {wk n : Int32} {Q : mv_Q} {I0 : mv_I} (hn : rg n 0 100) (hw : rg (I0 12 0) 0 8) (hp : mr_pt I0) (ht : rg (I0 12 10) 0 1000000) (t9 : ∀ j, rg (I0 59 j) 0 7 ∧ rg (I0 60 j) 0 7) (h : ∀ (I' : mv_I) (J' : mv_J), mg_f2 [64] [] I0 I' → Q none I' J') : ∀ (k fu : Nat) (op x : Int32) (y z : Option mv_V) (I : mv_I) (J : mv_J), 0 ≤ x.toInt → mg_f2 [64] [] I0 I → (n.toInt - x.toInt).toNat < k → 80 * k ≤ fu → mv_wp (mv_wpM mv_tab mv_sh d) mv_sh none tbX8_quotas flX8 csX8 0 (fun _ _ _ _ _ => False) Q fu 121 [some (.inr (.inr 12)), some (.inl wk), some (.inl n), some (.inl op), some (.inl x), y, z] [] I J := by
  intro k
  induction k with
  | zero => intro fu op x y z I J h0 h1 h2 hf; omega
  | succ k ih =>
    intro fu op x y z I J h0 h1 h2 hf
    obtain ⟨fu, rfl⟩ : ∃ z, fu = z + 80 := ⟨fu - 80, by omega⟩
    obtain ⟨n0, n1⟩ := id hn
    refine And.intro (fun q => ?_) (fun q => ?_)
    · exact h _ _ h1
    · have qx : x.toInt < n.toInt := by rw [mi_le] at q; omega
      have e1 := mi_incl qx
      have B : vp_in x 100 := vp_in_iff.mpr ⟨by omega, by omega⟩
      have ha : vp_in (I 59 x.toNatClampNeg) 8 := by rw [h1 59 _ rfl rfl]; exact vp_in_iff.mpr ⟨(t9 _).1.1, by have := (t9 x.toNatClampNeg).1.2; omega⟩
      have hb : vp_in (I 60 x.toNatClampNeg) 8 := by rw [h1 60 _ rfl rfl]; exact vp_in_iff.mpr ⟨(t9 _).2.1, by have := (t9 x.toNatClampNeg).2.2; omega⟩
      refine And.intro B ?_
      refine And.intro (fun _ => ?_) (fun _ => ?_)
      · refine And.intro ?_ trivial
        exact ih _ _ _ _ _ _ _ (by omega) h1 (by omega) (by omega)
      · refine And.intro B ?_
        refine And.intro (fun _ => ?_) (fun _ => ?_)
        · refine And.intro ?_ trivial
          exact ih _ _ _ _ _ _ _ (by omega) h1 (by omega) (by omega)
        · refine And.intro B ?_
          refine And.intro ha ?_
          refine And.intro B ?_
          refine And.intro ha ?_
          refine And.intro B ?_
          refine And.intro hb ?_
          refine And.intro B ?_
          refine And.intro hb ?_
          refine And.intro ?_ trivial
          exact ih _ _ _ _ _ _ _ (by omega) h1 (by omega) (by omega)
set_option maxHeartbeats 1000000 in
theorem l_quB {d : Nat} (hd : 1 ≤ d) {wk n : Int32} {Q : mv_Q} {I0 : mv_I} (hn : rg n 0 100) (hw : rg (I0 12 0) 0 8) (hp : mr_pt I0) (ht : rg (I0 12 10) 0 1000000) (t9 : ∀ j, rg (I0 59 j) 0 7 ∧ rg (I0 60 j) 0 7) (h : ∀ (I' : mv_I) (J' : mv_J), mg_f2 [64] [] I0 I' → Q none I' J') : ∀ (k fu : Nat) (op x : Int32) (y z : Option mv_V) (I : mv_I) (J : mv_J), 0 ≤ x.toInt → mg_f2 [64] [] I0 I → (∀ z : Nat, x.toInt ≤ z → (z : Int) < (I0 12 0).toInt → bi op z = false → 0 ≤ (J 63 z).toInt ∧ (J 63 z).toInt ≤ 1000001) → ((I0 12 0).toInt - x.toInt).toNat < k → 60 * k + 8100 ≤ fu → mv_wp (mv_wpM mv_tab mv_sh d) mv_sh none tbX8_quotas flX8 csX8 0 (fun _ _ _ _ _ => False) Q fu 70 [some (.inr (.inr 12)), some (.inl wk), some (.inl n), some (.inl op), some (.inl x), y, z] [] I J := by
  intro k
  induction k with
  | zero => intro fu op x y z I J h0 h1 h2 h3 hf; omega
  | succ k ih =>
    intro fu op x y z I J h0 h1 h2 h3 hf
    obtain ⟨fu, rfl⟩ : ∃ z, fu = z + 60 := ⟨fu - 60, by omega⟩
    have ew : I 12 0 = I0 12 0 := h1 12 0 rfl rfl
    have e51 : I 51 = I0 51 := f2_fn h1 rfl (fun _ => rfl)
    obtain ⟨w0, w1⟩ := id hw
    refine And.intro (fun q => ?_) (fun q => ?_)
    · refine And.intro ?_ trivial
      exact l_quC hd hn hw hp ht t9 h 101 _ _ _ _ _ _ _ (by decide) h1 (by have := hn.2; have : (0 : Int32).toInt = 0 := (by decide); omega) (by omega)
    · have qx : x.toInt < (I0 12 0).toInt := by rw [ew, mi_le] at q; omega
      have e1 := mi_incl qx
      have kx := mi_cl h0
      have B : vp_in x 8 := vp_in_iff.mpr ⟨by omega, by omega⟩
      refine And.intro (fun q2 => ?_) (fun q2 => ?_)
      · refine And.intro ?_ trivial
        exact ih _ _ _ _ _ _ _ (by omega) h1 (fun z z1 z2 z3 => h2 z (by omega) z2 z3) (by omega) (by omega)
      · have hb : bi op x.toNatClampNeg = false := bi_f h0 (by rw [q2]; decide)
        have hj := h2 x.toNatClampNeg (by omega) (by omega) hb
        refine And.intro B ?_
        refine And.intro B ?_
        refine r_part (by omega) _ _ (by rw [ew]; exact hw) (hp.kp ew e51) ⟨hj.1, by omega⟩ (fun I2 J2 f2 g2 => ?_)
        refine And.intro ?_ trivial
        refine ih _ _ _ _ _ _ _ (by omega) (h1.tr f2) (fun z z1 z2 z3 => ?_) (by omega) (by omega)
        rw [g2.1 z z3]
        show 0 ≤ (vp_updL (J 63) x.toNatClampNeg 0 z).toInt ∧ (vp_updL (J 63) x.toNatClampNeg 0 z).toInt ≤ 1000001
        have ne : ¬ z = x.toNatClampNeg := by omega
        unfold vp_updL
        rw [if_neg ne]
        exact h2 z (by omega) z2 z3
set_option maxHeartbeats 1000000 in
theorem l_quA {d : Nat} (hd : 1 ≤ d) {wk n : Int32} {Q : mv_Q} {I0 : mv_I} (hn : rg n 0 100) (hw : rg (I0 12 0) 0 8) (hp : mr_pt I0) (ht : rg (I0 12 10) 0 1000000) (t9 : ∀ j, rg (I0 59 j) 0 7 ∧ rg (I0 60 j) 0 7) (h : ∀ (I' : mv_I) (J' : mv_J), mg_f2 [64] [] I0 I' → Q none I' J') : ∀ (k fu : Nat) (op x : Int32) (J : mv_J), 0 ≤ x.toInt → (∀ z : Nat, (z : Int) < x.toInt → (J 63 z).toInt = 0) → ((I0 12 0).toInt - x.toInt).toNat < k → 60 * k + 8800 ≤ fu → mv_wp (mv_wpM mv_tab mv_sh d) mv_sh none tbX8_quotas flX8 csX8 0 (fun _ _ _ _ _ => False) Q fu 5 [some (.inr (.inr 12)), some (.inl wk), some (.inl n), some (.inl op), some (.inl x), none, none] [] I0 J := by
  intro k
  induction k with
  | zero => intro fu op x J h0 h1 h2 hf; omega
  | succ k ih =>
    intro fu op x J h0 h1 h2 hf
    obtain ⟨fu, rfl⟩ : ∃ z, fu = z + 60 := ⟨fu - 60, by omega⟩
    obtain ⟨w0, w1⟩ := id hw
    refine And.intro (fun q => ?_) (fun q => ?_)
    · have qx : (I0 12 0).toInt ≤ x.toInt := mi_le.mp q
      refine r_part (by omega) _ _ hw hp ⟨by rw [mi_L]; exact ht.1, by rw [mi_L]; have := ht.2; omega⟩ (fun I2 J2 f2 g2 => ?_)
      refine And.intro ?_ trivial
      refine l_quB hd hn hw hp ht t9 h 9 _ _ _ _ _ _ _ (by decide) f2 (fun z z1 z2 z3 => ?_) (by have : (0 : Int32).toInt = 0 := (by decide); omega) (by omega)
      have g3 := g2.2 z z2 (h1 z (by omega))
      rw [mi_L] at g3
      have := ht.2
      exact ⟨g3.1, by omega⟩
    · have qx : x.toInt < (I0 12 0).toInt := by rw [mi_le] at q; omega
      have e1 := mi_incl qx
      have kx := mi_cl h0
      have B : vp_in x 8 := vp_in_iff.mpr ⟨by omega, by omega⟩
      have G1 : ∀ z : Nat, (z : Int) < (x + 1).toInt → (vp_updL (J 63) x.toNatClampNeg 0 z).toInt = 0 := by
        intro z hz
        unfold vp_updL
        by_cases z1 : z = x.toNatClampNeg
        · rw [if_pos z1]; decide
        · rw [if_neg z1]; exact h1 z (by omega)
      refine And.intro B ?_
      refine r_isOpen (by omega) x wk n hn (fun r hr => ?_)
      refine And.intro (fun _ => ?_) (fun _ => ?_)
      · refine And.intro ?_ trivial
        exact ih _ _ _ _ (by omega) G1 (by omega) (by omega)
      · refine And.intro ?_ trivial
        exact ih _ _ _ _ (by omega) G1 (by omega) (by omega)
set_option maxHeartbeats 1000000 in
theorem r_quotas {d : Nat} (hd : 2 ≤ d) (wk n : Int32) {I : mv_I} {J : mv_J} {Q : mv_Q} (hn : rg n 0 100) (hw : rg (I 12 0) 0 8) (hp : mr_pt I) (ht : rg (I 12 10) 0 1000000) (t9 : ∀ j, rg (I 59 j) 0 7 ∧ rg (I 60 j) 0 7) (h : ∀ (I' : mv_I) (J' : mv_J), mg_f2 [64] [] I I' → Q none I' J') : mv_wpM mv_tab mv_sh d 92 [.inr (.inr 12), .inl wk, .inl n] I J Q := by
  obtain ⟨d, rfl⟩ : ∃ e, d = e + 1 := ⟨d - 1, by omega⟩
  refine (show ∃ fu9, mv_wp (mv_wpM mv_tab mv_sh d) mv_sh none tbX8_quotas flX8 csX8 0 (fun _ _ _ _ _ => False) Q fu9 0 [some (.inr (.inr 12)), some (.inl wk), some (.inl n), none, none, none, none] [] I J from ?_)
  refine ⟨9400, ?_⟩
  have z32 : (0 : Int32).toInt = 0 := by decide
  have w1 := hw.2
  refine And.intro ?_ trivial
  exact l_quA (by omega) hn hw hp ht t9 h 9 _ _ _ _ (by decide) (fun z hz => absurd hz (by rw [z32]; omega)) (by rw [z32]; omega) (Nat.le_of_ble_eq_true rfl)

