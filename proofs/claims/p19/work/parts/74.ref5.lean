set_option maxHeartbeats 1000000 in
theorem r_lets {d : Nat} (hd : 2 ≤ d) (a : Int32) {I : mv_I} {J : mv_J} {Q : mv_Q} (ha : 0 ≤ a.toInt) (h : ∀ r : Int32, (r = 0 ∨ r = 1) → Q (some (.inl r)) I J) : mv_wpM mv_tab mv_sh d 114 [.inr (.inr 12), .inl a] I J Q := by
  obtain ⟨d, rfl⟩ : ∃ e, d = e + 1 := ⟨d - 1, by omega⟩
  refine (show ∃ fu9, mv_wp (mv_wpM mv_tab mv_sh d) mv_sh none tbX8_lets flX8 csX8 2 (fun _ _ _ _ _ => False) Q fu9 0 [some (.inr (.inr 12)), some (.inl a)] [] I J from ?_)
  refine ⟨60, ?_⟩
  refine And.intro (fun q => ?_) (fun q => ?_)
  · refine r_taken (by omega) _ ⟨ha, by (try simp only [mi_le, mi_lt, mi_eq] at *); have := mi_l; omega⟩ (fun r => ?_)
    refine And.intro (fun _ => ?_) (fun _ => ?_)
    · exact And.intro (Or.inl rfl) (h _ (Or.inl rfl))
    · exact And.intro (Or.inr rfl) (h _ (Or.inr rfl))
  · refine r_taken (by omega) _ ⟨by decide, by decide⟩ (fun r => ?_)
    refine And.intro (fun _ => ?_) (fun _ => ?_)
    · exact And.intro (Or.inl rfl) (h _ (Or.inl rfl))
    · exact And.intro (Or.inr rfl) (h _ (Or.inr rfl))

set_option maxHeartbeats 1000000 in
theorem l_endOf {d : Nat} (hd : 2 ≤ d) {a b : Int32} {I : mv_I} {J : mv_J} {Q : mv_Q} (h : ∀ r : Int32, Q (some (.inl r)) I J) : ∀ (k fu : Nat) (m x : Int32), 0 ≤ x.toInt → (60 - x.toInt).toNat < k → 60 * k ≤ fu → mv_wp (mv_wpM mv_tab mv_sh d) mv_sh none tbX8_endOf flX8 csX8 1 (fun _ _ _ _ _ => False) Q fu 5 [some (.inr (.inr 12)), some (.inl a), some (.inl b), some (.inl m), some (.inl x)] [] I J := by
  intro k
  induction k with
  | zero => intro fu m x h0 h1 hf; omega
  | succ k ih =>
    intro fu m x h0 h1 hf
    obtain ⟨fu, rfl⟩ : ∃ z, fu = z + 60 := ⟨fu - 60, by omega⟩
    refine And.intro (fun q => ?_) (fun q => ?_)
    · refine r_lets (by omega) _ (by decide) (fun r hr => ?_)
      refine And.intro (fun _ => ?_) (fun _ => ?_)
      · exact h _
      · exact h _
    · have qx : x.toInt < 60 := by (try simp only [mi_le, mi_lt, mi_eq] at *); have := mi_l; omega
      have e1 := mi_inc qx (by omega)
      refine r_lets (by omega) x h0 (fun r hr => ?_)
      refine And.intro (fun _ => ?_) (fun _ => ?_)
      · refine And.intro (fun _ => ?_) (fun _ => ?_)
        · refine And.intro ?_ trivial
          exact ih _ _ _ (by omega) (by omega) (by omega)
        · exact h _
      · refine And.intro (fun _ => ?_) (fun _ => ?_)
        · refine And.intro ?_ trivial
          exact ih _ _ _ (by omega) (by omega) (by omega)
        · exact h _
set_option maxHeartbeats 1000000 in
theorem r_endOf {d : Nat} (hd : 3 ≤ d) (a b : Int32) {I : mv_I} {J : mv_J} {Q : mv_Q} (ha : 0 ≤ a.toInt) (h : ∀ r : Int32, Q (some (.inl r)) I J) : mv_wpM mv_tab mv_sh d 115 [.inr (.inr 12), .inl a, .inl b] I J Q := by
  obtain ⟨d, rfl⟩ : ∃ e, d = e + 1 := ⟨d - 1, by omega⟩
  refine (show ∃ fu9, mv_wp (mv_wpM mv_tab mv_sh d) mv_sh none tbX8_endOf flX8 csX8 1 (fun _ _ _ _ _ => False) Q fu9 0 [some (.inr (.inr 12)), some (.inl a), some (.inl b), none, none] [] I J from ?_)
  refine ⟨3800, ?_⟩
  refine And.intro ?_ trivial
  exact l_endOf (by omega) h 61 _ _ _ ha (by omega) (Nat.le_of_ble_eq_true rfl)

def mr_rw (f : Nat → Int32) (s : Int32) (n : Nat) : Prop := (∀ z, z < n → 0 ≤ (f z).toInt ∧ (f z).toInt < s.toInt) ∧ (∀ y z, y < n → z < n → f y = f z → y = z)
theorem mr_fl.of {I : mv_I} (h : mr_fl I) {a : Int32} (ha : 0 ≤ a.toInt) (h2 : a.toInt < (I 12 24).toInt) : vp_in a 6 ∧ rg (I 67 a.toNatClampNeg) 0 59 ∧ ¬ I 69 a.toNatClampNeg = 0 := by
  obtain ⟨f1, f2, f3, f4⟩ := h
  have e := mi_cl ha
  have h3 := f4 a.toNatClampNeg (by omega)
  have := f1.2
  refine ⟨vp_in_iff.mpr ⟨ha, by omega⟩, f2 _, fun z => ?_⟩
  have h4 := h3.2
  rw [z] at h4
  exact absurd h4 (by decide)
set_option maxHeartbeats 1000000 in
theorem l_costOf {d : Nat} (hd : 3 ≤ d) {n : Int32} {J : mv_J} {Q : mv_Q} {I0 : mv_I} (hn : rg n 0 6) (hF : mr_fl I0) (hR : mr_rw (I0 74) (I0 12 24) n.toNatClampNeg) (h : ∀ (r : Int32) (I' : mv_I), mg_f2 [75, 76, 77] [] I0 I' → Q (some (.inl r)) I' J) : ∀ (k fu : Nat) (fr sm x : Int32) (y z : Option mv_V) (I : mv_I), 0 ≤ x.toInt → mg_f2 [75, 76, 77] [] I0 I → (n.toInt - x.toInt).toNat < k → 140 * k ≤ fu → mv_wp (mv_wpM mv_tab mv_sh d) mv_sh none tbX8_costOf flX8 csX8 1 (fun _ _ _ _ _ => False) Q fu 7 [some (.inr (.inr 12)), some (.inl n), some (.inl fr), some (.inl sm), some (.inl x), y, z] [] I J := by
  intro k
  induction k with
  | zero => intro fu fr sm x y z I h0 h1 h2 hf; omega
  | succ k ih =>
    intro fu fr sm x y z I h0 h1 h2 hf
    obtain ⟨fu, rfl⟩ : ∃ z, fu = z + 140 := ⟨fu - 140, by omega⟩
    obtain ⟨n0, n1⟩ := id hn
    have kn := mi_cl n0
    have kx := mi_cl h0
    refine And.intro (fun q => ?_) (fun q => ?_)
    · exact h _ _ h1
    · have qx : x.toInt < n.toInt := by (try simp only [mi_le, mi_lt, mi_eq] at *); have := mi_l; omega
      have e1 := mi_incl qx
      have Bx : vp_in x 6 := vp_in_iff.mpr ⟨by omega, by omega⟩
      have hrow := hR.1 x.toNatClampNeg (by omega)
      have erow : I 74 x.toNatClampNeg = I0 74 x.toNatClampNeg := h1 74 _ rfl rfl
      have hFI : mr_fl I := hF.kp (h1 12 24 rfl rfl) (f2_fn h1 rfl (fun _ => rfl)) (f2_fn h1 rfl (fun _ => rfl)) (f2_fn h1 rfl (fun _ => rfl))
      refine And.intro Bx ?_
      rw [← erow] at hrow
      generalize I 74 x.toNatClampNeg = s at *
      obtain ⟨Bs, d59, nz⟩ := hFI.of hrow.1 (by rw [h1 12 24 rfl rfl]; exact hrow.2)
      refine And.intro Bs ?_
      refine And.intro (fun q2 => ?_) (fun q2 => ?_)
      · have hfr : 0 ≤ fr.toInt := by have := d59.1; rw [mi_le] at q2; omega
        refine And.intro Bx ?_
        refine And.intro Bx ?_
        refine And.intro Bs ?_
        refine And.intro Bs ?_
        refine And.intro Bs ?_
        refine And.intro nz ?_
        refine r_endOf (by omega) _ _ (show 0 ≤ (upd _ x.toNatClampNeg fr x.toNatClampNeg).toInt by unfold upd; rw [if_pos rfl]; exact hfr) (fun r => ?_)
        refine And.intro Bx ?_
        refine And.intro Bx ?_
        refine And.intro (fun _ => ?_) (fun _ => ?_)
        · refine And.intro Bx ?_
          refine And.intro Bx ?_
          refine And.intro Bs ?_
          refine And.intro Bs ?_
          refine And.intro (fun _ => ?_) (fun _ => ?_)
          · refine And.intro Bx ?_
            refine And.intro Bx ?_
            refine And.intro ?_ trivial
            exact ih _ _ _ _ _ _ _ (by omega) (by repeat (first | exact mg_f2.rf | assumption | refine mg_f2.up ?_ rfl | refine mg_f2.uf ?_ rfl)) (by omega) (by omega)
          · refine And.intro Bs ?_
            refine And.intro Bx ?_
            refine And.intro Bx ?_
            refine And.intro ?_ trivial
            exact ih _ _ _ _ _ _ _ (by omega) (by repeat (first | exact mg_f2.rf | assumption | refine mg_f2.up ?_ rfl | refine mg_f2.uf ?_ rfl)) (by omega) (by omega)
        · exact h _ _ (by repeat (first | exact mg_f2.rf | assumption | refine mg_f2.up ?_ rfl | refine mg_f2.uf ?_ rfl))
      · refine And.intro Bs ?_
        refine And.intro Bx ?_
        refine And.intro Bx ?_
        refine And.intro Bs ?_
        refine And.intro Bs ?_
        refine And.intro Bs ?_
        refine And.intro nz ?_
        refine r_endOf (by omega) _ _ (show 0 ≤ (upd _ x.toNatClampNeg (I 67 s.toNatClampNeg) x.toNatClampNeg).toInt by unfold upd; rw [if_pos rfl]; exact d59.1) (fun r => ?_)
        refine And.intro Bx ?_
        refine And.intro Bx ?_
        refine And.intro (fun _ => ?_) (fun _ => ?_)
        · refine And.intro Bx ?_
          refine And.intro Bx ?_
          refine And.intro Bs ?_
          refine And.intro Bs ?_
          refine And.intro (fun _ => ?_) (fun _ => ?_)
          · refine And.intro Bx ?_
            refine And.intro Bx ?_
            refine And.intro ?_ trivial
            exact ih _ _ _ _ _ _ _ (by omega) (by repeat (first | exact mg_f2.rf | assumption | refine mg_f2.up ?_ rfl | refine mg_f2.uf ?_ rfl)) (by omega) (by omega)
          · refine And.intro Bs ?_
            refine And.intro Bx ?_
            refine And.intro Bx ?_
            refine And.intro ?_ trivial
            exact ih _ _ _ _ _ _ _ (by omega) (by repeat (first | exact mg_f2.rf | assumption | refine mg_f2.up ?_ rfl | refine mg_f2.uf ?_ rfl)) (by omega) (by omega)
        · exact h _ _ (by repeat (first | exact mg_f2.rf | assumption | refine mg_f2.up ?_ rfl | refine mg_f2.uf ?_ rfl))
set_option maxHeartbeats 1000000 in
theorem r_costOf {d : Nat} (hd : 4 ≤ d) (n : Int32) {I : mv_I} {J : mv_J} {Q : mv_Q} (hn : rg n 0 6) (hF : mr_fl I) (hR : mr_rw (I 74) (I 12 24) n.toNatClampNeg) (h : ∀ (r : Int32) (I' : mv_I), mg_f2 [75, 76, 77] [] I I' → Q (some (.inl r)) I' J) : mv_wpM mv_tab mv_sh d 116 [.inr (.inr 12), .inl n] I J Q := by
  obtain ⟨d, rfl⟩ : ∃ e, d = e + 1 := ⟨d - 1, by omega⟩
  refine (show ∃ fu9, mv_wp (mv_wpM mv_tab mv_sh d) mv_sh none tbX8_costOf flX8 csX8 1 (fun _ _ _ _ _ => False) Q fu9 0 [some (.inr (.inr 12)), some (.inl n), none, none, none, none, none] [] I J from ?_)
  refine ⟨1000, ?_⟩
  refine And.intro ?_ trivial
  exact l_costOf (by omega) hn hF hR h 7 _ _ _ _ _ _ _ (by decide) mg_f2.rf (by have := hn.2; have := mi_l; omega) (Nat.le_of_ble_eq_true rfl)

set_option maxHeartbeats 1000000 in
theorem l_keep2 {d : Nat} {n : Int32} {J : mv_J} {Q : mv_Q} {I0 : mv_I} (hn : rg n 0 6) (hs : (I0 12 24).toInt ≤ 6) (hR : mr_rw (I0 74) (I0 12 24) n.toNatClampNeg) (h : ∀ (I' : mv_I), mg_f2 [78, 79, 80, 81] [(12, 37)] I0 I' → Q none I' J) : ∀ (k fu : Nat) (x : Int32) (I : mv_I), 0 ≤ x.toInt → mg_f2 [78, 79, 80, 81] [(12, 37)] I0 I → (n.toInt - x.toInt).toNat < k → 100 * k ≤ fu → mv_wp (mv_wpM mv_tab mv_sh d) mv_sh none tbX8_keep flX8 csX8 0 (fun _ _ _ _ _ => False) Q fu 28 [some (.inr (.inr 12)), some (.inl n), some (.inl x)] [] I J := by
  intro k
  induction k with
  | zero => intro fu x I h0 h1 h2 hf; omega
  | succ k ih =>
    intro fu x I h0 h1 h2 hf
    obtain ⟨fu, rfl⟩ : ∃ z, fu = z + 100 := ⟨fu - 100, by omega⟩
    obtain ⟨n0, n1⟩ := id hn
    have kn := mi_cl n0
    have kx := mi_cl h0
    refine And.intro (fun q => ?_) (fun q => ?_)
    · exact h _ h1
    · have qx : x.toInt < n.toInt := by (try simp only [mi_le, mi_lt, mi_eq] at *); have := mi_l; omega
      have e1 := mi_incl qx
      have Bx : vp_in x 6 := vp_in_iff.mpr ⟨by omega, by omega⟩
      have hrow := hR.1 x.toNatClampNeg (by omega)
      have erow : I 74 x.toNatClampNeg = I0 74 x.toNatClampNeg := h1 74 _ rfl rfl
      have Bs : vp_in (I 74 x.toNatClampNeg) 6 := by rw [erow]; exact vp_in_iff.mpr ⟨hrow.1, by have := hrow.2; omega⟩
      refine And.intro Bx ?_
      refine And.intro Bs ?_
      refine And.intro Bx ?_
      refine And.intro Bx ?_
      refine And.intro Bs ?_
      refine And.intro Bx ?_
      refine And.intro Bx ?_
      refine And.intro Bs ?_
      refine And.intro Bx ?_
      refine And.intro Bx ?_
      refine And.intro Bs ?_
      refine And.intro ?_ trivial
      exact ih _ _ _ (by omega) (by repeat (first | exact mg_f2.rf | assumption | refine mg_f2.up ?_ rfl | refine mg_f2.uf ?_ rfl)) (by omega) (by omega)
set_option maxHeartbeats 1000000 in
theorem l_keep1 {d : Nat} {n : Int32} {J : mv_J} {Q : mv_Q} {I0 : mv_I} (hn : rg n 0 6) (hs : (I0 12 24).toInt ≤ 6) (hR : mr_rw (I0 74) (I0 12 24) n.toNatClampNeg) (h : ∀ (I' : mv_I), mg_f2 [78, 79, 80, 81] [(12, 37)] I0 I' → Q none I' J) : ∀ (k fu : Nat) (x : Int32) (I : mv_I), 0 ≤ x.toInt → mg_f2 [78, 79, 80, 81] [(12, 37)] I0 I → (6 - x.toInt).toNat < k → 60 * k + 700 ≤ fu → mv_wp (mv_wpM mv_tab mv_sh d) mv_sh none tbX8_keep flX8 csX8 0 (fun _ _ _ _ _ => False) Q fu 7 [some (.inr (.inr 12)), some (.inl n), some (.inl x)] [] I J := by
  intro k
  induction k with
  | zero => intro fu x I h0 h1 h2 hf; omega
  | succ k ih =>
    intro fu x I h0 h1 h2 hf
    obtain ⟨fu, rfl⟩ : ∃ z, fu = z + 60 := ⟨fu - 60, by omega⟩
    refine And.intro (fun q => ?_) (fun q => ?_)
    · refine And.intro ?_ trivial
      exact l_keep2 hn hs hR h 7 _ _ _ (by decide) h1 (by have := hn.2; have := mi_l; omega) (by omega)
    · have qx : x.toInt < 6 := by (try simp only [mi_le, mi_lt, mi_eq] at *); have := mi_l; omega
      have e1 := mi_inc qx (by omega)
      refine And.intro (vp_in_iff.mpr ⟨by omega, by omega⟩) ?_
      refine And.intro ?_ trivial
      exact ih _ _ _ (by omega) (mg_f2.up h1 rfl) (by omega) (by omega)
set_option maxHeartbeats 1000000 in
theorem r_keep {d : Nat} (hd : 1 ≤ d) (n : Int32) {I : mv_I} {J : mv_J} {Q : mv_Q} (hn : rg n 0 6) (hs : (I 12 24).toInt ≤ 6) (hR : mr_rw (I 74) (I 12 24) n.toNatClampNeg) (h : ∀ (I' : mv_I), mg_f2 [78, 79, 80, 81] [(12, 37)] I I' → Q none I' J) : mv_wpM mv_tab mv_sh d 117 [.inr (.inr 12), .inl n] I J Q := by
  obtain ⟨d, rfl⟩ : ∃ e, d = e + 1 := ⟨d - 1, by omega⟩
  refine (show ∃ fu9, mv_wp (mv_wpM mv_tab mv_sh d) mv_sh none tbX8_keep flX8 csX8 0 (fun _ _ _ _ _ => False) Q fu9 0 [some (.inr (.inr 12)), some (.inl n), none] [] I J from ?_)
  refine ⟨1200, ?_⟩
  refine And.intro (Or.inr rfl) ?_
  refine And.intro ?_ trivial
  exact l_keep1 hn hs hR h 7 _ _ _ (by decide) (mg_f2.uf mg_f2.rf rfl) (by decide) (Nat.le_of_ble_eq_true rfl)

