def mr_tp (I I' : mv_I) : Prop := mg_f2 [66] [(12, 21), (12, 22)] I I' ∧ rg (I' 12 21) 0 70
theorem mr_tp.tr {I I' I'' : mv_I} (h : mr_tp I I') (h2 : mr_tp I' I'') : mr_tp I I'' := ⟨h.1.tr h2.1, h2.2⟩
theorem mr_tp.tp {I I' : mv_I} (h : mr_tp I I') : I' 12 20 = I 12 20 := h.1 12 20 rfl rfl
theorem mr_tp.at {I I' : mv_I} (h : mr_tp I I') {v : Int32} (hv : rg v 0 70) : mr_tp I (va_up I' 12 (upd (I' 12) 21 v)) := ⟨mg_f2.uf h.1 rfl, hv⟩
theorem mr_tp.wr {I I' : mv_I} (h : mr_tp I I') {v : Int32} : mr_tp I (va_up I' 12 (upd (I' 12) 22 v)) := ⟨mg_f2.uf h.1 rfl, h.2⟩
theorem mr_tp.rp {I I' : mv_I} (h : mr_tp I I') {f : Nat → Int32} : mr_tp I (va_up I' 66 f) := ⟨mg_f2.up h.1 rfl, h.2⟩
def mr_rp (I I' : mv_I) : Prop := I' 66 = I 66
set_option maxHeartbeats 1000000 in
theorem l_next {d : Nat} {J : mv_J} {Q : mv_Q} {I0 : mv_I} (hl : rg (I0 12 20) 0 70) (h : ∀ (r : Int32) (I' : mv_I), mr_tp I0 I' → I' 66 = I0 66 → (¬ r = 0 → (I' 12 21).toInt < (I0 12 20).toInt) → Q (some (.inl r)) I' J) : ∀ (k fu : Nat) (I : mv_I), mr_tp I0 I → I 66 = I0 66 → ((I0 12 20).toInt - (I 12 21).toInt).toNat < k → 60 * k ≤ fu → mv_wp (mv_wpM mv_tab mv_sh d) mv_sh none tbX8_next flX8 csX8 1 (fun _ _ _ _ _ => False) Q fu 0 [some (.inr (.inr 12))] [] I J := by
  intro k
  induction k with
  | zero => intro fu I h0 h1 h2 hf; omega
  | succ k ih =>
    intro fu I h0 h1 h2 hf
    obtain ⟨fu, rfl⟩ : ∃ z, fu = z + 60 := ⟨fu - 60, by omega⟩
    have el : I 12 20 = I0 12 20 := h0.tp
    obtain ⟨hl0, hl1⟩ := id hl
    obtain ⟨a0, a1⟩ := id h0.2
    refine And.intro (fun q => ?_) (fun q => ?_)
    · refine And.intro (fun q2 => ?_) (fun q2 => absurd q q2)
      exact h _ _ h0 h1 (fun z => absurd rfl z)
    · have qx : (I 12 21).toInt < (I0 12 20).toInt := by rw [el] at q; (try simp only [mi_le, mi_lt, mi_eq] at *); have := mi_l; omega
      have e1 := mi_incl qx
      have B : vp_in (I 12 21) 70 := vp_in_iff.mpr ⟨by omega, by omega⟩
      refine And.intro B ?_
      refine And.intro (fun q3 => ?_) (fun q3 => ?_)
      · refine And.intro (fun q2 => absurd q2 q) (fun q2 => ?_)
        exact And.intro B (h _ _ h0 h1 (fun _ => qx))
      · refine And.intro ?_ trivial
        refine ih _ _ (h0.at ⟨by omega, by omega⟩) h1 ?_ (by omega)
        show ((I0 12 20).toInt - (I 12 21 + 1).toInt).toNat < k
        omega
set_option maxHeartbeats 1000000 in
theorem r_next {d : Nat} (hd : 1 ≤ d) {I : mv_I} {J : mv_J} {Q : mv_Q} (hl : rg (I 12 20) 0 70) (ha : rg (I 12 21) 0 70) (h : ∀ (r : Int32) (I' : mv_I), mr_tp I I' → I' 66 = I 66 → (¬ r = 0 → (I' 12 21).toInt < (I 12 20).toInt) → Q (some (.inl r)) I' J) : mv_wpM mv_tab mv_sh d 101 [.inr (.inr 12)] I J Q := by
  obtain ⟨d, rfl⟩ : ∃ e, d = e + 1 := ⟨d - 1, by omega⟩
  refine (show ∃ fu9, mv_wp (mv_wpM mv_tab mv_sh d) mv_sh none tbX8_next flX8 csX8 1 (fun _ _ _ _ _ => False) Q fu9 0 [some (.inr (.inr 12))] [] I J from ?_)
  refine ⟨4300, ?_⟩
  exact l_next hl h 71 _ _ ⟨mg_f2.rf, ha⟩ rfl (by obtain ⟨hl0, hl1⟩ := hl; have := ha.1; omega) (Nat.le_of_ble_eq_true rfl)

set_option maxHeartbeats 1000000 in
theorem l_number {d : Nat} (hd : 1 ≤ d) {a b f : Int32} {J : mv_J} {Q : mv_Q} {I0 : mv_I} (hl : rg (I0 12 20) 0 70) (h : ∀ (r : Int32) (I' : mv_I), mr_tp I0 I' → I' 66 = I0 66 → (r = -1 ∨ (a ≤ r ∧ r ≤ b)) → Q (some (.inl r)) I' J) : ∀ (k fu : Nat) (m : Int32) (I : mv_I), mr_tp I0 I → I 66 = I0 66 → ((I0 12 20).toInt - (I 12 21).toInt).toNat < k → 80 * k ≤ fu → mv_wp (mv_wpM mv_tab mv_sh d) mv_sh none tbX8_number flX8 csX8 1 (fun _ _ _ _ _ => False) Q fu 32 [some (.inr (.inr 12)), some (.inl a), some (.inl b), some (.inl f), some (.inl m)] [] I J := by
  intro k
  induction k with
  | zero => intro fu m I h0 h1 h2 hf; omega
  | succ k ih =>
    intro fu m I h0 h1 h2 hf
    obtain ⟨fu, rfl⟩ : ∃ z, fu = z + 80 := ⟨fu - 80, by omega⟩
    have el : I 12 20 = I0 12 20 := h0.tp
    obtain ⟨hl0, hl1⟩ := id hl
    obtain ⟨a0, a1⟩ := id h0.2
    have EX : ∀ fu, 40 ≤ fu → mv_wp (mv_wpM mv_tab mv_sh d) mv_sh none tbX8_number flX8 csX8 1 (fun _ _ _ _ _ => False) Q fu 108 [some (.inr (.inr 12)), some (.inl a), some (.inl b), some (.inl f), some (.inl m)] [] I J := by
      intro fu hfu
      obtain ⟨fu, rfl⟩ : ∃ z, fu = z + 40 := ⟨fu - 40, by omega⟩
      refine c_in (by omega) m a b (fun p => ?_) (fun p => ?_)
      · first | refine And.intro (fun z => absurd z (by decide)) (fun _ => ?_) | refine And.intro (fun _ => ?_) (fun z => absurd z (by decide))
        exact h _ _ h0 h1 (Or.inr p)
      · first | refine And.intro (fun z => absurd z (by decide)) (fun _ => ?_) | refine And.intro (fun _ => ?_) (fun z => absurd z (by decide))
        exact h _ _ h0.wr h1 (Or.inl rfl)
    refine And.intro (fun q => ?_) (fun q => ?_)
    · exact EX _ (by omega)
    · have qx : (I 12 21).toInt < (I0 12 20).toInt := by rw [el] at q; (try simp only [mi_le, mi_lt, mi_eq] at *); have := mi_l; omega
      have e1 := mi_incl qx
      have B : vp_in (I 12 21) 70 := vp_in_iff.mpr ⟨by omega, by omega⟩
      have N : ∀ (fu : Nat) (m : Int32), 80 * k ≤ fu → mv_wp (mv_wpM mv_tab mv_sh d) mv_sh none tbX8_number flX8 csX8 1 (fun _ _ _ _ _ => False) Q fu 32 [some (.inr (.inr 12)), some (.inl a), some (.inl b), some (.inl f), some (.inl m)] [] (va_up I 12 (upd (I 12) 21 (I 12 21 + 1))) J := fun fu m hf => ih _ _ _ (h0.at ⟨by omega, by omega⟩) h1 (show ((I0 12 20).toInt - (I 12 21 + 1).toInt).toNat < k by omega) hf
      refine And.intro B ?_
      refine c_in (by omega) _ 48 57 (fun p => ?_) (fun p => ?_)
      · first | refine And.intro (fun z => absurd z (by decide)) (fun _ => ?_) | refine And.intro (fun _ => ?_) (fun z => absurd z (by decide))
        refine And.intro (fun _ => ?_) (fun _ => ?_)
        · refine And.intro B ?_
          refine And.intro ?_ trivial
          exact N _ _ (by omega)
        · refine And.intro ?_ trivial
          exact N _ _ (by omega)
      · first | refine And.intro (fun z => absurd z (by decide)) (fun _ => ?_) | refine And.intro (fun _ => ?_) (fun z => absurd z (by decide))
        exact EX _ (by omega)
set_option maxHeartbeats 1000000 in
theorem r_number {d : Nat} (hd : 2 ≤ d) (a b : Int32) {I : mv_I} {J : mv_J} {Q : mv_Q} (hl : rg (I 12 20) 0 70) (ha : rg (I 12 21) 0 70) (h : ∀ (r : Int32) (I' : mv_I), mr_tp I I' → I' 66 = I 66 → (r = -1 ∨ (a ≤ r ∧ r ≤ b)) → Q (some (.inl r)) I' J) : mv_wpM mv_tab mv_sh d 102 [.inr (.inr 12), .inl a, .inl b] I J Q := by
  obtain ⟨d, rfl⟩ : ∃ e, d = e + 1 := ⟨d - 1, by omega⟩
  refine (show ∃ fu9, mv_wp (mv_wpM mv_tab mv_sh d) mv_sh none tbX8_number flX8 csX8 1 (fun _ _ _ _ _ => False) Q fu9 0 [some (.inr (.inr 12)), some (.inl a), some (.inl b), none, none] [] I J from ?_)
  refine ⟨6000, ?_⟩
  refine r_next (by omega) hl ha (fun r I2 t2 e2 g2 => ?_)
  refine c_in (by omega) _ 48 57 (fun p => ?_) (fun p => ?_)
  · first | refine And.intro (fun z => absurd z (by decide)) (fun _ => ?_) | refine And.intro (fun _ => ?_) (fun z => absurd z (by decide))
    refine And.intro ?_ trivial
    exact l_number (by omega) (I0 := I) hl h 71 _ _ _ t2 e2 (by obtain ⟨hl0, hl1⟩ := hl; have := t2.2.1; omega) (Nat.le_of_ble_eq_true rfl)
  · first | refine And.intro (fun z => absurd z (by decide)) (fun _ => ?_) | refine And.intro (fun _ => ?_) (fun z => absurd z (by decide))
    exact h _ _ t2.wr e2 (Or.inl rfl)

def mr_ok (w : Int32) (f : Nat → Int32) : Prop := ∀ z : Nat, (z : Int) < w.toInt → rg (f z) 1 1000
set_option maxHeartbeats 1000000 in
theorem l_reads2 {d : Nat} (hd : 2 ≤ d) {J : mv_J} {Q : mv_Q} {I0 : mv_I} (hl : rg (I0 12 20) 0 70) (hw : rg (I0 12 0) 0 8) (h : ∀ (r : Int32) (I' : mv_I), mr_tp I0 I' → mr_ok (I0 12 0) (I' 66) → Q (some (.inl r)) I' J) : ∀ (k fu : Nat) (n m : Int32) (y z : Option mv_V) (I : mv_I), mr_tp I0 I → mr_ok (I0 12 0) (I 66) → 0 ≤ n.toInt → (m = 0 ∨ n.toInt < 8) → (8 - n.toInt).toNat < k → 100 * k ≤ fu → mv_wp (mv_wpM mv_tab mv_sh d) mv_sh none tbX8_reads flX8 csX8 1 (fun _ _ _ _ _ => False) Q fu 37 [some (.inr (.inr 12)), some (.inl n), some (.inl m), y, z] [] I J := by
  intro k
  induction k with
  | zero => intro fu n m y z I h0 h1 h2 h3 h4 hf; omega
  | succ k ih =>
    intro fu n m y z I h0 h1 h2 h3 h4 hf
    obtain ⟨fu, rfl⟩ : ∃ z, fu = z + 100 := ⟨fu - 100, by omega⟩
    have el : I 12 20 = I0 12 20 := h0.tp
    obtain ⟨hl0, hl1⟩ := id hl
    obtain ⟨a0, a1⟩ := id h0.2
    have ew : I 12 0 = I0 12 0 := h0.1 12 0 rfl rfl
    obtain ⟨w0, w1⟩ := id hw
    have c1 : (1 : Int32).toInt = 1 := by decide
    have e4 : (I 12 0 - 1).toInt = (I0 12 0).toInt - 1 := by rw [ew, mi_sub (by omega) (by omega), c1]
    refine And.intro (fun q => ?_) (fun q => ?_)
    · refine r_next (by omega) (by show rg (I 12 20) 0 70; rw [el]; exact hl) h0.2 (fun r I2 t2 e2 g2 => ?_)
      have T : mr_tp I0 I2 := h0.wr.tr t2
      have E : mr_ok (I0 12 0) (I2 66) := by rw [e2]; exact h1
      refine And.intro (fun _ => ?_) (fun _ => ?_)
      · exact h _ _ T E
      · exact h _ _ T E
    · have hn8 : n.toInt < 8 := h3.resolve_left q
      have en := mi_inc hn8 (by omega)
      refine r_number (by omega) _ _ (by rw [el]; exact hl) h0.2 (fun r I2 t2 e2 g2 => ?_)
      have T2 : mr_tp I0 I2 := h0.tr t2
      have E2 : mr_ok (I0 12 0) (I2 66) := by rw [e2]; exact h1
      refine And.intro (fun q2 => ?_) (fun q2 => ?_)
      · have hr2 : 0 ≤ r.toInt ∧ r.toInt ≤ (I0 12 0).toInt - 1 := by
          rcases g2 with rfl | hr
          · exact absurd q2 (by decide)
          · obtain ⟨z1, z2⟩ := hr
            rw [mi_le, e4] at z2
            rw [mi_le] at z1
            have := mi_l
            exact ⟨by omega, by omega⟩
        refine r_next (by omega) (by rw [T2.tp]; exact hl) T2.2 (fun r3 I3 t3 e3 g3 => ?_)
        have T3 : mr_tp I0 I3 := T2.tr t3
        have E3 : mr_ok (I0 12 0) (I3 66) := by rw [e3]; exact E2
        refine And.intro (fun q3 => ?_) (fun q3 => ?_)
        · have g3 := g3 (by rw [q3]; decide)
          rw [T2.tp] at g3
          have b3 := T3.2.1
          have e9 := mi_inc (x := I3 12 21) (n := 70) (by omega) (by omega)
          have T4 : mr_tp I0 (va_up I3 12 (upd (I3 12) 21 (I3 12 21 + 1))) := T3.at ⟨by omega, by omega⟩
          refine r_number (by omega) _ _ (by rw [T4.tp]; exact hl) T4.2 (fun r5 I5 t5 e5 g5 => ?_)
          have T5 : mr_tp I0 I5 := T4.tr t5
          have E5 : mr_ok (I0 12 0) (I5 66) := by rw [e5]; exact E3
          refine And.intro (fun q5 => ?_) (fun q5 => ?_)
          · have hr5 : rg r5 1 1000 := by
              rcases g5 with rfl | hr
              · exact absurd q5 (by decide)
              · exact mg_le hr
            refine And.intro (vp_in_iff.mpr ⟨by omega, by omega⟩) ?_
            have T6 : mr_tp I0 (va_up I5 66 (upd (I5 66) r.toNatClampNeg r5)) := T5.rp
            have E6 : mr_ok (I0 12 0) (upd (I5 66) r.toNatClampNeg r5) := fun z hz => by unfold upd; split; exact hr5; exact E5 z hz
            refine r_next (by omega) (by rw [T6.tp]; exact hl) T6.2 (fun r7 I7 t7 e7 g7 => ?_)
            have T7 : mr_tp I0 I7 := T6.tr t7
            have E7 : mr_ok (I0 12 0) (I7 66) := by rw [e7]; exact E6
            have b7 := T7.2.1
            have b8 := T7.2.2
            have z0 : (I7 12 21 + 0) = I7 12 21 := Int32.add_zero _
            refine And.intro (fun q7 => ?_) (fun q7 => ?_)
            · refine And.intro (fun _ => ?_) (fun z => absurd rfl z)
              refine And.intro ?_ trivial
              exact ih _ _ _ _ _ _ (T7.at (by rw [z0]; exact T7.2)) E7 (by omega) (Or.inl rfl) (by omega) (by omega)
            · refine And.intro (fun q8 => ?_) (fun q8 => ?_)
              · refine And.intro (fun _ => ?_) (fun z => absurd rfl z)
                refine And.intro ?_ trivial
                exact ih _ _ _ _ _ _ (T7.at (by rw [z0]; exact T7.2)) E7 (by omega) (Or.inl rfl) (by omega) (by omega)
              · have g7 := g7 (by rw [q7]; decide)
                rw [T6.tp] at g7
                have e10 := mi_inc (x := I7 12 21) (n := 70) (by omega) (by omega)
                refine And.intro (fun z => absurd z (by decide)) (fun _ => ?_)
                refine And.intro ?_ trivial
                exact ih _ _ _ _ _ _ (T7.at ⟨by omega, by omega⟩) E7 (by omega) (Or.inr (by rw [mi_le] at q8; have : (8 : Int32).toInt = 8 := (by decide); omega)) (by omega) (by omega)
          · exact h _ _ T5 E5
        · exact h _ _ T3.wr E3
      · exact h _ _ T2 E2
set_option maxHeartbeats 1000000 in
theorem l_reads1 {d : Nat} (hd : 2 ≤ d) {J : mv_J} {Q : mv_Q} {I0 : mv_I} (hl : rg (I0 12 20) 0 70) (hw : rg (I0 12 0) 0 8) (hp : mr_pt I0) (h : ∀ (r : Int32) (I' : mv_I), mr_tp I0 I' → mr_ok (I0 12 0) (I' 66) → Q (some (.inl r)) I' J) : ∀ (k fu : Nat) (x : Int32) (I : mv_I), 0 ≤ x.toInt → mr_tp I0 I → (∀ z : Nat, (z : Int) < x.toInt → rg (I 66 z) 1 1000) → ((I0 12 0).toInt - x.toInt).toNat < k → 60 * k + 960 ≤ fu → mv_wp (mv_wpM mv_tab mv_sh d) mv_sh none tbX8_reads flX8 csX8 1 (fun _ _ _ _ _ => False) Q fu 7 [some (.inr (.inr 12)), some (.inl x), none, none, none] [] I J := by
  intro k
  induction k with
  | zero => intro fu x I h0 h1 h2 h3 hf; omega
  | succ k ih =>
    intro fu x I h0 h1 h2 h3 hf
    obtain ⟨fu, rfl⟩ : ∃ z, fu = z + 60 := ⟨fu - 60, by omega⟩
    have ew : I 12 0 = I0 12 0 := h1.1 12 0 rfl rfl
    have e51 : I 51 = I0 51 := f2_fn h1.1 rfl (fun _ => rfl)
    obtain ⟨w0, w1⟩ := id hw
    refine And.intro (fun q => ?_) (fun q => ?_)
    · have qx : (I0 12 0).toInt ≤ x.toInt := by rw [ew] at q; (try simp only [mi_le, mi_lt, mi_eq] at *); have := mi_l; omega
      refine And.intro ?_ trivial
      exact l_reads2 (by omega) hl hw h 9 _ _ _ _ _ _ h1 (fun z hz => h2 z (by omega)) (by decide) (Or.inr (by decide)) (by decide) (by omega)
    · have qx : x.toInt < (I0 12 0).toInt := by rw [ew] at q; (try simp only [mi_le, mi_lt, mi_eq] at *); have := mi_l; omega
      have e1 := mi_incl qx
      have kx := mi_cl h0
      have B : vp_in x 8 := vp_in_iff.mpr ⟨by omega, by omega⟩
      refine And.intro B ?_
      refine And.intro B ?_
      refine And.intro ?_ trivial
      refine ih _ _ _ (by omega) h1.rp (fun z hz => ?_) (by omega) (by omega)
      show rg (upd (I 66) x.toNatClampNeg (I 51 x.toNatClampNeg) z) 1 1000
      unfold upd
      by_cases z1 : z = x.toNatClampNeg
      · rw [if_pos z1, e51]; exact hp _ (by omega)
      · rw [if_neg z1]; exact h2 z (by omega)
set_option maxHeartbeats 1000000 in
theorem r_reads {d : Nat} (hd : 3 ≤ d) {I : mv_I} {J : mv_J} {Q : mv_Q} (hl : rg (I 12 20) 0 70) (hw : rg (I 12 0) 0 8) (hp : mr_pt I) (h : ∀ (r : Int32) (I' : mv_I), mg_f2 [66] [(12, 21), (12, 22)] I I' → mr_ok (I 12 0) (I' 66) → Q (some (.inl r)) I' J) : mv_wpM mv_tab mv_sh d 103 [.inr (.inr 12)] I J Q := by
  obtain ⟨d, rfl⟩ : ∃ e, d = e + 1 := ⟨d - 1, by omega⟩
  refine (show ∃ fu9, mv_wp (mv_wpM mv_tab mv_sh d) mv_sh none tbX8_reads flX8 csX8 1 (fun _ _ _ _ _ => False) Q fu9 0 [some (.inr (.inr 12)), none, none, none, none] [] I J from ?_)
  refine ⟨1600, ?_⟩
  refine And.intro ?_ trivial
  exact l_reads1 (by omega) (I0 := I) hl hw hp (fun r I' t e => h r I' t.1 e) 9 _ _ _ (by decide) ⟨mg_f2.uf mg_f2.rf rfl, show rg (0 : Int32) 0 70 from ⟨by decide, by decide⟩⟩ (fun z hz => absurd hz (by have := mi_l; omega)) (by obtain ⟨w0, w1⟩ := hw; have := mi_l; omega) (Nat.le_of_ble_eq_true rfl)

set_option maxHeartbeats 1000000 in
theorem l_rparts {d : Nat} {n : Int32} {J : mv_J} {Q : mv_Q} {I0 : mv_I} (hw : rg (I0 12 0) 0 8) (hr : mr_ok (I0 12 0) (I0 66)) (h : ∀ (I' : mv_I), mg_f2 [51] [] I0 I' → (∀ z : Nat, (z : Int) < (I0 12 0).toInt → rg (I' 51 z) 1 1000) → Q (some (.inl n)) I' J) : ∀ (k fu : Nat) (x : Int32) (I : mv_I), 0 ≤ x.toInt → mg_f2 [51] [] I0 I → (∀ z : Nat, (z : Int) < x.toInt → rg (I 51 z) 1 1000) → ((I0 12 0).toInt - x.toInt).toNat < k → 60 * k ≤ fu → mv_wp (mv_wpM mv_tab mv_sh d) mv_sh none tbX8_parts flX8 csX8 1 (fun _ _ _ _ _ => False) Q fu 24 [some (.inr (.inr 12)), some (.inl n), some (.inl x)] [] I J := by
  intro k
  induction k with
  | zero => intro fu x I h0 h1 h2 h3 hf; omega
  | succ k ih =>
    intro fu x I h0 h1 h2 h3 hf
    obtain ⟨fu, rfl⟩ : ∃ z, fu = z + 60 := ⟨fu - 60, by omega⟩
    have ew : I 12 0 = I0 12 0 := h1 12 0 rfl rfl
    have e66 : I 66 = I0 66 := f2_fn h1 rfl (fun _ => rfl)
    obtain ⟨w0, w1⟩ := id hw
    refine And.intro (fun q => ?_) (fun q => ?_)
    · have qx : (I0 12 0).toInt ≤ x.toInt := by rw [ew] at q; (try simp only [mi_le, mi_lt, mi_eq] at *); have := mi_l; omega
      exact h _ h1 (fun z hz => h2 z (by omega))
    · have qx : x.toInt < (I0 12 0).toInt := by rw [ew] at q; (try simp only [mi_le, mi_lt, mi_eq] at *); have := mi_l; omega
      have e1 := mi_incl qx
      have kx := mi_cl h0
      have B : vp_in x 8 := vp_in_iff.mpr ⟨by omega, by omega⟩
      refine And.intro B ?_
      refine And.intro B ?_
      refine And.intro ?_ trivial
      refine ih _ _ _ (by omega) (mg_f2.up h1 rfl) (fun z hz => ?_) (by omega) (by omega)
      show rg (upd (I 51) x.toNatClampNeg (I 66 x.toNatClampNeg) z) 1 1000
      unfold upd
      by_cases z1 : z = x.toNatClampNeg
      · rw [if_pos z1, e66]; exact hr _ (by omega)
      · rw [if_neg z1]; exact h2 z (by omega)
set_option maxHeartbeats 1000000 in
theorem G_parts {d : Nat} (hd : 5 ≤ d) {I : mv_I} {J : mv_J} {Q : mv_Q} (sm : SM I) (h : ∀ (r : Int32) (I' : mv_I) (J' : mv_J), SM I' → mg_f2 [51, 66] [(12, 20), (12, 21), (12, 22)] I I' → I' 12 20 = 0 → Q (some (.inl r)) I' J') : mv_wpM mv_tab mv_sh d 104 [.inr (.inr 12)] I J Q := by
  obtain ⟨d, rfl⟩ : ∃ e, d = e + 1 := ⟨d - 1, by omega⟩
  refine (show ∃ fu9, mv_wp (mv_wpM mv_tab mv_sh d) mv_sh none tbX8_parts flX8 csX8 1 (fun _ _ _ _ _ => False) Q fu9 0 [some (.inr (.inr 12)), none, none] [] I J from ?_)
  refine ⟨700, ?_⟩
  obtain ⟨t1, t2, t3, t4, t5, t6, t7, t8, t9, t10⟩ := id sm
  refine r_reads (by omega) t4 t2 t10.1 (fun r I2 f2 g2 => ?_)
  have f : mg_f2 [51, 66] [(12, 20), (12, 21), (12, 22)] I (va_up I2 12 (upd (I2 12) 20 0)) := mg_f2.uf (f2.mono rfl rfl) rfl
  have z0 : rg (0 : Int32) 0 70 := ⟨by decide, by decide⟩
  have e51 : I2 51 = I 51 := f2_fn f2 rfl (fun _ => rfl)
  have e0 : I2 12 0 = I 12 0 := f2 12 0 rfl rfl
  refine And.intro (fun q => ?_) (fun q => ?_)
  · refine And.intro ?_ trivial
    refine l_rparts (I0 := va_up I2 12 (upd (I2 12) 20 0)) (show rg (I2 12 0) 0 8 by rw [e0]; exact t2) (show mr_ok (I2 12 0) (I2 66) by rw [e0]; exact g2) (fun I3 f3 g3 => ?_) 9 _ _ _ (by decide) mg_f2.rf (fun z hz => absurd hz (by have := mi_l; omega)) (by show ((I2 12 0).toInt - (0 : Int32).toInt).toNat < 9; rw [e0]; have := t2.2; have := mi_l; omega) (Nat.le_of_ble_eq_true rfl)
    have g : mg_f2 [51, 66] [(12, 20), (12, 21), (12, 22)] I I3 := f.tr (f3.mono rfl rfl)
    have z : I3 12 20 = 0 := f3 12 20 rfl rfl
    exact h _ _ _ ⟨(show rg (_ : Int32) _ _ by rw [g 12 3 rfl rfl]; exact t1), (show rg (_ : Int32) _ _ by rw [g 12 0 rfl rfl]; exact t2), (show rg (_ : Int32) _ _ by rw [g 12 11 rfl rfl]; exact t3), (by rw [z]; exact z0), (show rg (_ : Int32) _ _ by rw [g 12 4 rfl rfl]; exact t5), (fun j => (by rw [g 53 j rfl rfl]; exact t6 j)), (t7.kp (g 12 24 rfl rfl) (f2_fn (c := 67) g rfl (fun _ => rfl)) (f2_fn (c := 68) g rfl (fun _ => rfl)) (f2_fn (c := 69) g rfl (fun _ => rfl))), ⟨(fun j => (by rw [g 82 j rfl rfl]; exact t8.1 j)), (fun j => (by rw [g 83 j rfl rfl]; exact t8.2 j))⟩, (fun j => (by rw [g 59 j rfl rfl, g 60 j rfl rfl]; exact t9 j)), ⟨(fun j hj => g3 j (by show (j : Int) < (I2 12 0).toInt; rw [e0]; rw [g 12 0 rfl rfl] at hj; exact hj)), (show rg (_ : Int32) _ _ by rw [g 12 10 rfl rfl]; exact t10.2)⟩⟩ g z
  · exact h _ _ _ ⟨(show rg (_ : Int32) _ _ by rw [f 12 3 rfl rfl]; exact t1), (show rg (_ : Int32) _ _ by rw [f 12 0 rfl rfl]; exact t2), (show rg (_ : Int32) _ _ by rw [f 12 11 rfl rfl]; exact t3), (show rg (0 : Int32) 0 70 from z0), (show rg (_ : Int32) _ _ by rw [f 12 4 rfl rfl]; exact t5), (fun j => (by rw [f 53 j rfl rfl]; exact t6 j)), (t7.kp (f 12 24 rfl rfl) (f2_fn (c := 67) f rfl (fun _ => rfl)) (f2_fn (c := 68) f rfl (fun _ => rfl)) (f2_fn (c := 69) f rfl (fun _ => rfl))), ⟨(fun j => (by rw [f 82 j rfl rfl]; exact t8.1 j)), (fun j => (by rw [f 83 j rfl rfl]; exact t8.2 j))⟩, (fun j => (by rw [f 59 j rfl rfl, f 60 j rfl rfl]; exact t9 j)), ⟨(t10.1.kp e0 e51), (show rg (_ : Int32) _ _ by rw [f 12 10 rfl rfl]; exact t10.2)⟩⟩ f rfl

