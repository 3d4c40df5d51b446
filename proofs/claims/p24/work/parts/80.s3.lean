/-! the tape of the reference: what it reads -/
set_option maxHeartbeats 1000000 in
theorem x_next {d : Nat} {J : mv_J} {Q : mv_Q} {I0 : mv_I} {L : Nat} (hL : L ≤ 70) (eL : I0 12 20 = nI L) : ∀ (k fu a : Nat) (I : mv_I), mg_f2 [] [(12, 21)] I0 I → I 12 21 = nI a → a ≤ L → L - a < k → 60 * k ≤ fu → (∀ (r : Int32) (I' : mv_I), mg_f2 [] [(12, 21)] I0 I' → I' 12 21 = nI (sk (I0 65) L a) → r = (if sk (I0 65) L a < L then I0 65 (sk (I0 65) L a) else 0) → Q (some (.inl r)) I' J) → mv_wp (mv_wpM mv_tab mv_sh d) mv_sh none tbX8_next flX8 csX8 1 (fun _ _ _ _ _ => False) Q fu 0 [some (.inr (.inr 12))] [] I J := by
  intro k
  induction k with
  | zero => intro fu a I h0 h1 h2 h3 hf; omega
  | succ k ih =>
    intro fu a I f0 e0 ha hk hf h
    obtain ⟨fu, rfl⟩ : ∃ z, fu = z + 60 := ⟨fu - 60, by omega⟩
    have el : I 12 20 = nI L := (f0 12 20 rfl rfl).trans eL
    have e65 : I 65 = I0 65 := f2_fn f0 rfl (fun _ => rfl)
    have tL : (nI L).toInt = L := nI_toInt (by omega)
    have ta : (nI a).toInt = a := nI_toInt (by omega)
    have ca : (nI a).toNatClampNeg = a := nI_clamp (by omega)
    refine And.intro (fun q => ?_) (fun q => ?_)
    · have q' := q
      rw [el, e0, mi_le, tL, ta] at q'
      refine And.intro (fun q2 => ?_) (fun q2 => absurd q q2)
      have es : sk (I0 65) L a = a := sk_no (fun z => absurd z.1 (by omega))
      exact h _ _ f0 (by rw [es]; exact e0) (by rw [es, if_neg (by omega)])
    · have q' := q
      rw [el, e0, mi_le, tL, ta] at q'
      have B : vp_in (I 12 21) 70 := by rw [e0]; exact vp_in_nI (by omega) (by decide)
      have eb : I 65 (I 12 21).toNatClampNeg = I0 65 a := by rw [e0, ca, e65]
      refine And.intro B ?_
      refine And.intro (fun q3 => ?_) (fun q3 => ?_)
      · rw [eb] at q3
        refine And.intro (fun q2 => absurd q2 q) (fun q2 => ?_)
        have es : sk (I0 65) L a = a := sk_no (fun z => q3 z.2)
        exact And.intro B (h _ _ f0 (by rw [es]; exact e0) (by rw [es, if_pos (by omega), eb]))
      · rw [eb] at q3
        have es : sk (I0 65) L a = sk (I0 65) L (a + 1) := sk_go (by omega) q3
        refine And.intro ?_ trivial
        exact ih _ (a + 1) _ (mg_f2.uf f0 rfl) (show I 12 21 + 1 = nI (a + 1) by rw [e0]; exact nI_1 a) (by omega) (by omega) (by omega) (fun r I' f' e' er => h r I' f' (by rw [es]; exact e') (by rw [es]; exact er))
set_option maxHeartbeats 1000000 in
theorem e_next {d : Nat} (hd : 1 ≤ d) {I : mv_I} {J : mv_J} {Q : mv_Q} {L a : Nat} (hL : L ≤ 70) (eL : I 12 20 = nI L) (ea : I 12 21 = nI a) (ha : a ≤ L) (h : ∀ (r : Int32) (I' : mv_I), mg_f2 [] [(12, 21)] I I' → I' 12 21 = nI (sk (I 65) L a) → r = (if sk (I 65) L a < L then I 65 (sk (I 65) L a) else 0) → Q (some (.inl r)) I' J) : mv_wpM mv_tab mv_sh d 101 [.inr (.inr 12)] I J Q := by
  obtain ⟨d, rfl⟩ : ∃ e, d = e + 1 := ⟨d - 1, by omega⟩
  refine (show ∃ fu9, mv_wp (mv_wpM mv_tab mv_sh d) mv_sh none tbX8_next flX8 csX8 1 (fun _ _ _ _ _ => False) Q fu9 0 [some (.inr (.inr 12))] [] I J from ?_)
  refine ⟨4300, ?_⟩
  exact x_next hL eL 71 _ a _ mg_f2.rf ea ha (by omega) (Nat.le_of_ble_eq_true rfl) h
def nmQ (f : Nat → Int32) (L s : Nat) (lo hi : Int) (r p w : Int32) : Prop := (nmB f L s lo hi ∧ r = -1 ∧ w = nI s) ∨ (¬ nmB f L s lo hi ∧ r = nI (dg f L s 0).2 ∧ p = nI (dg f L s 0).1)
set_option maxHeartbeats 1000000 in
theorem x_rnum {d : Nat} (hd : 1 ≤ d) {lo hi fs : Int32} {s : Nat} {J : mv_J} {Q : mv_Q} {I0 : mv_I} {L : Nat} (hL : L ≤ 70) (eL : I0 12 20 = nI L) (hs : s ≤ L) (hlo : 0 ≤ lo.toInt) (hhi : hi.toInt ≤ 1000) (efs : fs = nI s) (hne : ¬ (dg (I0 65) L s 0).1 = s) (h : ∀ (r : Int32) (I' : mv_I), mg_f2 [] [(12, 21), (12, 22)] I0 I' → nmQ (I0 65) L s lo.toInt hi.toInt r (I' 12 21) (I' 12 22) → Q (some (.inl r)) I' J) : ∀ (k fu a : Nat) (m : Int32) (I : mv_I), mg_f2 [] [(12, 21), (12, 22)] I0 I → I 12 21 = nI a → a ≤ L → rg m 0 100009 → dg (I0 65) L s 0 = dg (I0 65) L a (min m.toInt.toNat 1001) → L - a < k → 80 * k ≤ fu → mv_wp (mv_wpM mv_tab mv_sh d) mv_sh none tbX8_number flX8 csX8 1 (fun _ _ _ _ _ => False) Q fu 32 [some (.inr (.inr 12)), some (.inl lo), some (.inl hi), some (.inl fs), some (.inl m)] [] I J := by
  subst efs
  intro k
  induction k with
  | zero => intro fu a m I h0 h1 h2 h3 h4 h5 hf; omega
  | succ k ih =>
    intro fu a m I f0 e0 ha hm D hk hf
    obtain ⟨fu, rfl⟩ : ∃ z, fu = z + 80 := ⟨fu - 80, by omega⟩
    have el : I 12 20 = nI L := (f0 12 20 rfl rfl).trans eL
    have e65 : I 65 = I0 65 := f2_fn f0 rfl (fun _ => rfl)
    have tL : (nI L).toInt = L := nI_toInt (by omega)
    have ta : (nI a).toInt = a := nI_toInt (by omega)
    have ca : (nI a).toNatClampNeg = a := nI_clamp (by omega)
    have c48 : (48 : Int32).toInt = 48 := by decide
    have c57 : (57 : Int32).toInt = 57 := by decide
    have ck : (10000 : Int32).toInt = 10000 := by decide
    obtain ⟨m0, m1⟩ := id hm
    have EX : dg (I0 65) L s 0 = (a, min m.toInt.toNat 1001) → ∀ fu, 40 ≤ fu → mv_wp (mv_wpM mv_tab mv_sh d) mv_sh none tbX8_number flX8 csX8 1 (fun _ _ _ _ _ => False) Q fu 108 [some (.inr (.inr 12)), some (.inl lo), some (.inl hi), some (.inl (nI s)), some (.inl m)] [] I J := by
      intro D2 fu hfu
      obtain ⟨fu, rfl⟩ : ∃ z, fu = z + 40 := ⟨fu - 40, by omega⟩
      have D3 : (dg (I0 65) L s 0).2 = min m.toInt.toNat 1001 := by rw [D2]
      refine c_in (by omega) m lo hi (fun p => ?_) (fun p => ?_)
      · first | refine And.intro (fun z => absurd z (by decide)) (fun _ => ?_) | refine And.intro (fun _ => ?_) (fun z => absurd z (by decide))
        rw [mi_le, mi_le] at p
        have hn : ¬ nmB (I0 65) L s lo.toInt hi.toInt := fun z => by
          rcases z with z | z
          · exact hne z
          · exact z ⟨by omega, by omega⟩
        have em : m = nI (min m.toInt.toNat 1001) := mi_eq.mpr (by rw [nI_toInt (by omega)]; omega)
        exact h _ _ f0 (Or.inr ⟨hn, by rw [D2]; exact em, by rw [D2]; exact e0⟩)
      · first | refine And.intro (fun z => absurd z (by decide)) (fun _ => ?_) | refine And.intro (fun _ => ?_) (fun z => absurd z (by decide))
        exact h _ _ (mg_f2.uf f0 rfl) (Or.inl ⟨Or.inr (fun z => p (by rw [mi_le, mi_le]; exact ⟨by omega, by omega⟩)), rfl, rfl⟩)
    refine And.intro (fun q => ?_) (fun q => ?_)
    · rw [el, e0, mi_le, tL, ta] at q
      exact EX (D.trans (dg_no (fun z => absurd z.1 (by omega)))) _ (by omega)
    · rw [el, e0, mi_le, tL, ta] at q
      have B : vp_in (I 12 21) 70 := by rw [e0]; exact vp_in_nI (by omega) (by decide)
      have eb : I 65 (I 12 21).toNatClampNeg = I0 65 a := by rw [e0, ca, e65]
      refine And.intro B ?_
      refine c_in (by omega) _ 48 57 (fun p => ?_) (fun p => ?_)
      · first | refine And.intro (fun z => absurd z (by decide)) (fun _ => ?_) | refine And.intro (fun _ => ?_) (fun z => absurd z (by decide))
        rw [eb, mi_le, mi_le, c48, c57] at p
        have E9 : I 12 21 + 1 = nI (a + 1) := by rw [e0]; exact nI_1 a
        refine And.intro (fun q3 => ?_) (fun q3 => ?_)
        · rw [mi_le, ck] at q3
          refine And.intro B ?_
          refine And.intro ?_ trivial
          have mk := mn_ok2 (m := m) (b := I0 65 a) hm p.1 p.2 q3
          refine ih _ (a + 1) _ _ (mg_f2.uf f0 rfl) E9 (by omega) ?_ ?_ (by omega) (by omega)
          · rw [eb]; exact mk.1
          · rw [eb, mk.2]; exact D.trans (dg_go (by omega) p.1 p.2)
        · rw [mi_le, ck] at q3
          refine And.intro ?_ trivial
          refine ih _ (a + 1) _ _ (mg_f2.uf f0 rfl) E9 (by omega) hm ?_ (by omega) (by omega)
          rw [D, dg_go (by omega) p.1 p.2, show min (10 * min m.toInt.toNat 1001 + ((I0 65 a).toInt - 48).toNat) 1001 = min m.toInt.toNat 1001 by omega]
      · first | refine And.intro (fun z => absurd z (by decide)) (fun _ => ?_) | refine And.intro (fun _ => ?_) (fun z => absurd z (by decide))
        rw [eb] at p
        exact EX (D.trans (dg_no (fun z => p (by rw [mi_le, mi_le, c48, c57]; exact z.2)))) _ (by omega)
set_option maxHeartbeats 1000000 in
theorem e_rnum {d : Nat} (hd : 2 ≤ d) (lo hi : Int32) {I : mv_I} {J : mv_J} {Q : mv_Q} {L a : Nat} (hL : L ≤ 70) (eL : I 12 20 = nI L) (ea : I 12 21 = nI a) (ha : a ≤ L) (hlo : 0 ≤ lo.toInt) (hhi : hi.toInt ≤ 1000) (h : ∀ (r : Int32) (I' : mv_I), mg_f2 [] [(12, 21), (12, 22)] I I' → nmQ (I 65) L (sk (I 65) L a) lo.toInt hi.toInt r (I' 12 21) (I' 12 22) → Q (some (.inl r)) I' J) : mv_wpM mv_tab mv_sh d 102 [.inr (.inr 12), .inl lo, .inl hi] I J Q := by
  obtain ⟨d, rfl⟩ : ∃ e, d = e + 1 := ⟨d - 1, by omega⟩
  refine (show ∃ fu9, mv_wp (mv_wpM mv_tab mv_sh d) mv_sh none tbX8_number flX8 csX8 1 (fun _ _ _ _ _ => False) Q fu9 0 [some (.inr (.inr 12)), some (.inl lo), some (.inl hi), none, none] [] I J from ?_)
  refine ⟨6000, ?_⟩
  have c48 : (48 : Int32).toInt = 48 := by decide
  have c57 : (57 : Int32).toInt = 57 := by decide
  refine e_next (by omega) hL eL ea ha (fun r I2 f2 e2 er => ?_)
  refine c_in (by omega) _ 48 57 (fun p => ?_) (fun p => ?_)
  · first | refine And.intro (fun z => absurd z (by decide)) (fun _ => ?_) | refine And.intro (fun _ => ?_) (fun z => absurd z (by decide))
    have hd1 : sk (I 65) L a < L ∧ 48 ≤ (I 65 (sk (I 65) L a)).toInt ∧ (I 65 (sk (I 65) L a)).toInt ≤ 57 := by
      rw [er] at p
      by_cases hsL : sk (I 65) L a < L
      · rw [if_pos hsL, mi_le, mi_le, c48, c57] at p
        exact ⟨hsL, p⟩
      · rw [if_neg hsL] at p
        exact absurd p.1 (by decide)
    refine And.intro ?_ trivial
    exact x_rnum (by omega) (I0 := I) hL eL (sk_le ha) hlo hhi e2 (fun z => by have := dg_gt (v := 0) hd1.1 hd1.2.1 hd1.2.2; omega) h 71 _ _ _ _ (f2.mono rfl rfl) e2 (sk_le ha) ⟨by decide, by decide⟩ (by rw [show min (0 : Int32).toInt.toNat 1001 = 0 from by decide]) (by omega) (Nat.le_of_ble_eq_true rfl)
  · first | refine And.intro (fun z => absurd z (by decide)) (fun _ => ?_) | refine And.intro (fun _ => ?_) (fun z => absurd z (by decide))
    refine h _ _ (mg_f2.uf (f2.mono rfl rfl) rfl) (Or.inl ⟨Or.inl ?_, rfl, e2⟩)
    rw [dg_no (fun z => p (by rw [er, if_pos z.1, mi_le, mi_le, c48, c57]; exact z.2))]
set_option maxHeartbeats 1000000 in
theorem x_exit {d : Nat} (hd : 2 ≤ d) {J : mv_J} {Q : mv_Q} {I : mv_I} {L g : Nat} {n : Int32} {y z : Option mv_V} (hL : L ≤ 70) (eL : I 12 20 = nI L) (hb : ∀ j, j < L → ¬ I 65 j = 0) (ea : I 12 21 = nI g) (hg : g ≤ L) (sg : sk (I 65) L g = g) (h : ∀ (r : Int32) (I' : mv_I), mg_f2 [] [(12, 21), (12, 22)] I I' → ((¬ g < L ∧ r = n) ∨ (g < L ∧ r = -1 ∧ I' 12 22 = nI g)) → Q (some (.inl r)) I' J) (fu : Nat) (hf : 100 ≤ fu) : mv_wp (mv_wpM mv_tab mv_sh d) mv_sh none tbX8_reads flX8 csX8 1 (fun _ _ _ _ _ => False) Q fu 37 [some (.inr (.inr 12)), some (.inl n), some (.inl 0), y, z] [] I J := by
  obtain ⟨fu, rfl⟩ : ∃ z, fu = z + 100 := ⟨fu - 100, by omega⟩
  refine And.intro (fun q => ?_) (fun q => absurd rfl q)
  refine e_next (by omega) hL (show I 12 20 = nI L from eL) (show I 12 21 = nI g from ea) hg (fun r I2 f2 e2 er => ?_)
  have f2' : mg_f2 [] [(12, 21), (12, 22)] I I2 := (mg_f2.uf mg_f2.rf rfl).tr (f2.mono rfl rfl)
  have w2 : I2 12 22 = nI g := (f2 12 22 rfl rfl).trans ea
  have er' : r = if g < L then I 65 g else 0 := by
    have z : r = if sk (I 65) L g < L then I 65 (sk (I 65) L g) else 0 := er
    rw [sg] at z
    exact z
  by_cases hgL : g < L
  · rw [if_pos hgL] at er'
    have rn : ¬ r = 0 := by rw [er']; exact hb g hgL
    refine And.intro (fun _ => ?_) (fun q => absurd q rn)
    exact h _ _ f2' (Or.inr ⟨hgL, rfl, w2⟩)
  · rw [if_neg hgL] at er'
    refine And.intro (fun q => absurd er' q) (fun _ => ?_)
    exact h _ _ f2' (Or.inl ⟨hgL, rfl⟩)
def rdR (q : Bool × Nat × List (Nat × Nat)) (R0 : Nat → Int32) (r w : Int32) (T : Nat → Int32) : Prop := (q.1 = true ∧ r = nI q.2.1 ∧ T = ap_u R0 q.2.2) ∨ (q.1 = false ∧ r = -1 ∧ w = nI q.2.1)
set_option maxHeartbeats 2000000 in
theorem x_reads {d : Nat} (hd : 2 ≤ d) {J : mv_J} {Q : mv_Q} {I0 : mv_I} {L W : Nat} {R0 : Nat → Int32} (hW : W ≤ 8) (eW : I0 12 0 = nI W) (hL : L ≤ 70) (eL : I0 12 20 = nI L) (hb : ∀ j, j < L → ¬ I0 65 j = 0) (h : ∀ (r : Int32) (I' : mv_I), mg_f2 [66] [(12, 21), (12, 22)] I0 I' → rdR (rp (I0 65) L W 8 0 0 []) R0 r (I' 12 22) (I' 66) → Q (some (.inl r)) I' J) : ∀ (k fu nn a : Nat) (U : List (Nat × Nat)) (n m : Int32) (y z : Option mv_V) (I : mv_I), mg_f2 [66] [(12, 21), (12, 22)] I0 I → n = nI nn → nn + (k + 1) = 8 → ¬ m = 0 → I 12 21 = nI a → a ≤ L → I 66 = ap_u R0 U → rp (I0 65) L W 8 0 0 [] = rp (I0 65) L W (k + 1) nn a U → 200 * (k + 1) ≤ fu → mv_wp (mv_wpM mv_tab mv_sh d) mv_sh none tbX8_reads flX8 csX8 1 (fun _ _ _ _ _ => False) Q fu 37 [some (.inr (.inr 12)), some (.inl n), some (.inl m), y, z] [] I J := by
  intro k
  induction k with
  | zero =>
    intro fu nn a U n m y z I f0 en hn hm ea ha eU D hf
    obtain ⟨fu, rfl⟩ : ∃ z, fu = z + 200 := ⟨fu - 200, by omega⟩
    have el : I 12 20 = nI L := (f0 12 20 rfl rfl).trans eL
    have e65 : I 65 = I0 65 := f2_fn f0 rfl (fun _ => rfl)
    have ew : I 12 0 = nI W := (f0 12 0 rfl rfl).trans eW
    have c1 : (1 : Int32).toInt = 1 := by decide
    have c0 : (0 : Int32).toInt = 0 := by decide
    have c8 : (8 : Int32).toInt = 8 := by decide
    have ck : (1000 : Int32).toInt = 1000 := by decide
    have tW : (I 12 0).toInt = W := by rw [ew]; exact nI_toInt (by omega)
    have e4 : (I 12 0 - 1).toInt = (W : Int) - 1 := by rw [mi_sub (by omega) (by omega), c1, tW]
    have tn : n.toInt = nn := by rw [en]; exact nI_toInt (by omega)
    have tn1 : (n + 1).toInt = (nn : Int) + 1 := by rw [mi_inc (n := 9) (by omega) (by omega), tn]
    have hs := sk_le (f := I0 65) ha
    have hcl := p_c_le (f := I0 65) ha
    refine And.intro (fun q => absurd q hm) (fun _ => ?_)
    refine e_rnum (by omega) _ _ hL el ea ha (by decide) (by rw [e4]; omega) (fun r I2 f2 hr => ?_)
    rw [c0, e4, e65] at hr
    have f02 : mg_f2 [66] [(12, 21), (12, 22)] I0 I2 := f0.tr (f2.mono rfl rfl)
    rcases hr with ⟨b, e, p⟩ | ⟨b, e, p⟩
    · subst e
      refine And.intro (fun q => absurd q (by decide)) (fun _ => ?_)
      rw [rp_1 (show (pr (I0 65) L W a).1 = false by rw [pr_1 b])] at D
      exact h _ _ f02 (Or.inr ⟨by rw [D], rfl, by rw [D, pr_1 b]; exact p⟩)
    · have bv := nmB_no b
      have hv := dg_v (f := I0 65) hs
      subst e
      refine And.intro (fun _ => ?_) (fun q => absurd (by rw [mi_le, nI_toInt (by omega), c0]; omega) q)
      have el2 : I2 12 20 = nI L := (f02 12 20 rfl rfl).trans eL
      have e652 : I2 65 = I0 65 := f2_fn f02 rfl (fun _ => rfl)
      have hc : sk (I2 65) L (dg (I0 65) L (sk (I0 65) L a) 0).1 = p_c (I0 65) L a := by rw [e652]; rfl
      refine e_next (by omega) hL el2 p (dg_le hs) (fun r3 I3 f3 e3 er3 => ?_)
      rw [hc] at e3 er3
      rw [e652] at er3
      have f03 : mg_f2 [66] [(12, 21), (12, 22)] I0 I3 := f02.tr (f3.mono rfl rfl)
      by_cases c : p_c (I0 65) L a < L ∧ I0 65 (p_c (I0 65) L a) = 58
      · rw [if_pos c.1, c.2] at er3
        subst er3
        refine And.intro (fun _ => ?_) (fun q => absurd rfl q)
        have f04 : mg_f2 [66] [(12, 21), (12, 22)] I0 (va_up I3 12 (upd (I3 12) 21 (I3 12 21 + 1))) := mg_f2.uf f03 rfl
        have e654 : (va_up I3 12 (upd (I3 12) 21 (I3 12 21 + 1))) 65 = I0 65 := f2_fn f04 rfl (fun _ => rfl)
        refine e_rnum (by omega) _ _ hL ((f04 12 20 rfl rfl).trans eL) (show I3 12 21 + 1 = nI (p_c (I0 65) L a + 1) by rw [e3]; exact nI_1 _) (by omega) (by decide) (by decide) (fun r5 I5 f5 hr5 => ?_)
        rw [c1, ck, e654] at hr5
        have hr5 : nmQ (I0 65) L (p_t (I0 65) L a) 1 1000 r5 (I5 12 21) (I5 12 22) := hr5
        have f05 : mg_f2 [66] [(12, 21), (12, 22)] I0 I5 := f04.tr (f5.mono rfl rfl)
        have hpt : p_t (I0 65) L a ≤ L := sk_le (by omega)
        rcases hr5 with ⟨b5, e5, p5⟩ | ⟨b5, e5, p5⟩
        · subst e5
          refine And.intro (fun q => absurd q (by decide)) (fun _ => ?_)
          rw [rp_1 (show (pr (I0 65) L W a).1 = false by rw [pr_3 b c b5])] at D
          exact h _ _ f05 (Or.inr ⟨by rw [D], rfl, by rw [D, pr_3 b c b5]; exact p5⟩)
        · have bv5 := nmB_no b5
          have hv5 := dg_v (f := I0 65) hpt
          subst e5
          refine And.intro (fun _ => ?_) (fun q => absurd (by rw [mi_le, nI_toInt (by omega), c0]; omega) q)
          refine And.intro (vp_in_nI (by omega) (by decide)) ?_
          have P4 := pr_4 b c b5
          have b1 : (pr (I0 65) L W a).1 = true := by rw [P4]
          have hg : (p_g (I0 65) L W a) ≤ L := sk_le (pr_le ha)
          have f06 : mg_f2 [66] [(12, 21), (12, 22)] I0 (va_up I5 66 (upd (I5 66) (nI (dg (I0 65) L (sk (I0 65) L a) 0).2).toNatClampNeg (nI (dg (I0 65) L (p_t (I0 65) L a) 0).2))) := mg_f2.up f05 rfl
          have e656 : (va_up I5 66 (upd (I5 66) (nI (dg (I0 65) L (sk (I0 65) L a) 0).2).toNatClampNeg (nI (dg (I0 65) L (p_t (I0 65) L a) 0).2))) 65 = I0 65 := f2_fn f06 rfl (fun _ => rfl)
          have e665 : I5 66 = ap_u R0 U := by rw [f2_fn (c := 66) f5 rfl (fun _ => rfl)]; show I3 66 = _; rw [f2_fn (c := 66) f3 rfl (fun _ => rfl), f2_fn (c := 66) f2 rfl (fun _ => rfl)]; exact eU
          have e666 : upd (I5 66) (nI (dg (I0 65) L (sk (I0 65) L a) 0).2).toNatClampNeg (nI (dg (I0 65) L (p_t (I0 65) L a) 0).2) = ap_u R0 ((pr (I0 65) L W a).2.2 :: U) := by
            rw [nI_clamp (by omega), e665, P4]
            rfl
          refine e_next (by omega) hL ((f06 12 20 rfl rfl).trans eL) (show I5 12 21 = nI (dg (I0 65) L (p_t (I0 65) L a) 0).1 from p5) (dg_le hpt) (fun r7 I7 f7 e7 er7 => ?_)
          have hgg : sk (I0 65) L (dg (I0 65) L (p_t (I0 65) L a) 0).1 = (p_g (I0 65) L W a) := by unfold p_g; rw [P4]
          rw [e656, hgg] at e7 er7
          have f07 : mg_f2 [66] [(12, 21), (12, 22)] I0 I7 := f06.tr (f7.mono rfl rfl)
          have e657 : I7 65 = I0 65 := f2_fn f07 rfl (fun _ => rfl)
          have e667 : I7 66 = ap_u R0 ((pr (I0 65) L W a).2.2 :: U) := (f2_fn (c := 66) f7 rfl (fun _ => rfl)).trans e666
          have FIN : ¬ (0 < 0 ∧ I0 65 (p_g (I0 65) L W a) = 44) ∨ ¬ (p_g (I0 65) L W a) < L → ∀ (fu : Nat) (y z : Option mv_V), 100 ≤ fu → mv_wp (mv_wpM mv_tab mv_sh d) mv_sh none tbX8_reads flX8 csX8 1 (fun _ _ _ _ _ => False) Q fu 37 [some (.inr (.inr 12)), some (.inl (n + 1)), some (.inl 0), y, z] [] (va_up I7 12 (upd (I7 12) 21 (I7 12 21 + 0))) J := by
            intro N fu y z hfu
            refine x_exit (g := (p_g (I0 65) L W a)) (by omega) hL ((mg_f2.uf f07 rfl : mg_f2 [66] [(12, 21), (12, 22)] I0 (va_up I7 12 (upd (I7 12) 21 (I7 12 21 + 0)))) 12 20 rfl rfl |>.trans eL) (fun j hj => by show ¬ I7 65 j = 0; rw [e657]; exact hb j hj) (show I7 12 21 + 0 = nI (p_g (I0 65) L W a) by rw [e7]; exact Int32.add_zero _) hg (by show sk (I7 65) L (p_g (I0 65) L W a) = (p_g (I0 65) L W a); rw [e657]; exact sk_sk (pr_le ha)) (fun r I' f' hr => ?_) fu hfu
            have f08 : mg_f2 [66] [(12, 21), (12, 22)] I0 I' := (mg_f2.uf f07 rfl : mg_f2 [66] [(12, 21), (12, 22)] I0 (va_up I7 12 (upd (I7 12) 21 (I7 12 21 + 0)))).tr (f'.mono rfl rfl)
            have e668 : I' 66 = ap_u R0 ((pr (I0 65) L W a).2.2 :: U) := (f2_fn (c := 66) f' rfl (fun _ => rfl)).trans e667
            rcases hr with ⟨g1, er⟩ | ⟨g1, er, ew8⟩
            · rw [rp_2 b1 g1] at D
              exact h _ _ f08 (Or.inl ⟨by rw [D], by rw [D, er, en]; exact nI_1 nn, by rw [D]; exact e668⟩)
            · rw [rp_3 b1 g1 (by rcases N with N | N; exact N; exact absurd g1 N)] at D
              exact h _ _ f08 (Or.inr ⟨by rw [D], er, by rw [D]; exact ew8⟩)
          by_cases c7 : (p_g (I0 65) L W a) < L ∧ I0 65 (p_g (I0 65) L W a) = 44
          · rw [if_pos c7.1, c7.2] at er7
            subst er7
            refine And.intro (fun q => absurd rfl q) (fun _ => ?_)
            refine And.intro (fun q8 => ?_) (fun q8 => ?_)
            · refine And.intro (fun _ => ?_) (fun z => absurd rfl z)
              refine And.intro ?_ trivial
              exact FIN (Or.inl (fun z => absurd z.1 (by omega))) _ _ _ (by omega)
            · exact absurd (mi_le.mpr (by rw [c8, tn1]; omega)) q8
          · have r7 : ¬ r7 = 44 := by
              rw [er7]
              by_cases g1 : (p_g (I0 65) L W a) < L
              · rw [if_pos g1]; exact fun z => c7 ⟨g1, z⟩
              · rw [if_neg g1]; decide
            refine And.intro (fun _ => ?_) (fun q => absurd q r7)
            refine And.intro (fun _ => ?_) (fun z => absurd rfl z)
            refine And.intro ?_ trivial
            refine FIN ?_ _ _ _ (by omega)
            by_cases g1 : (p_g (I0 65) L W a) < L
            · exact Or.inl (fun z => c7 ⟨g1, z.2⟩)
            · exact Or.inr g1
      · have r3 : ¬ r3 = 58 := by
          rw [er3]
          by_cases g1 : p_c (I0 65) L a < L
          · rw [if_pos g1]; exact fun z => c ⟨g1, z⟩
          · rw [if_neg g1]; decide
        refine And.intro (fun q => absurd q r3) (fun _ => ?_)
        rw [rp_1 (show (pr (I0 65) L W a).1 = false by rw [pr_2 b c])] at D
        exact h _ _ (mg_f2.uf f03 rfl) (Or.inr ⟨by rw [D], rfl, by rw [D, pr_2 b c]; exact e3⟩)
  | succ k ih =>
    intro fu nn a U n m y z I f0 en hn hm ea ha eU D hf
    obtain ⟨fu, rfl⟩ : ∃ z, fu = z + 200 := ⟨fu - 200, by omega⟩
    have el : I 12 20 = nI L := (f0 12 20 rfl rfl).trans eL
    have e65 : I 65 = I0 65 := f2_fn f0 rfl (fun _ => rfl)
    have ew : I 12 0 = nI W := (f0 12 0 rfl rfl).trans eW
    have c1 : (1 : Int32).toInt = 1 := by decide
    have c0 : (0 : Int32).toInt = 0 := by decide
    have c8 : (8 : Int32).toInt = 8 := by decide
    have ck : (1000 : Int32).toInt = 1000 := by decide
    have tW : (I 12 0).toInt = W := by rw [ew]; exact nI_toInt (by omega)
    have e4 : (I 12 0 - 1).toInt = (W : Int) - 1 := by rw [mi_sub (by omega) (by omega), c1, tW]
    have tn : n.toInt = nn := by rw [en]; exact nI_toInt (by omega)
    have tn1 : (n + 1).toInt = (nn : Int) + 1 := by rw [mi_inc (n := 9) (by omega) (by omega), tn]
    have hs := sk_le (f := I0 65) ha
    have hcl := p_c_le (f := I0 65) ha
    refine And.intro (fun q => absurd q hm) (fun _ => ?_)
    refine e_rnum (by omega) _ _ hL el ea ha (by decide) (by rw [e4]; omega) (fun r I2 f2 hr => ?_)
    rw [c0, e4, e65] at hr
    have f02 : mg_f2 [66] [(12, 21), (12, 22)] I0 I2 := f0.tr (f2.mono rfl rfl)
    rcases hr with ⟨b, e, p⟩ | ⟨b, e, p⟩
    · subst e
      refine And.intro (fun q => absurd q (by decide)) (fun _ => ?_)
      rw [rp_1 (show (pr (I0 65) L W a).1 = false by rw [pr_1 b])] at D
      exact h _ _ f02 (Or.inr ⟨by rw [D], rfl, by rw [D, pr_1 b]; exact p⟩)
    · have bv := nmB_no b
      have hv := dg_v (f := I0 65) hs
      subst e
      refine And.intro (fun _ => ?_) (fun q => absurd (by rw [mi_le, nI_toInt (by omega), c0]; omega) q)
      have el2 : I2 12 20 = nI L := (f02 12 20 rfl rfl).trans eL
      have e652 : I2 65 = I0 65 := f2_fn f02 rfl (fun _ => rfl)
      have hc : sk (I2 65) L (dg (I0 65) L (sk (I0 65) L a) 0).1 = p_c (I0 65) L a := by rw [e652]; rfl
      refine e_next (by omega) hL el2 p (dg_le hs) (fun r3 I3 f3 e3 er3 => ?_)
      rw [hc] at e3 er3
      rw [e652] at er3
      have f03 : mg_f2 [66] [(12, 21), (12, 22)] I0 I3 := f02.tr (f3.mono rfl rfl)
      by_cases c : p_c (I0 65) L a < L ∧ I0 65 (p_c (I0 65) L a) = 58
      · rw [if_pos c.1, c.2] at er3
        subst er3
        refine And.intro (fun _ => ?_) (fun q => absurd rfl q)
        have f04 : mg_f2 [66] [(12, 21), (12, 22)] I0 (va_up I3 12 (upd (I3 12) 21 (I3 12 21 + 1))) := mg_f2.uf f03 rfl
        have e654 : (va_up I3 12 (upd (I3 12) 21 (I3 12 21 + 1))) 65 = I0 65 := f2_fn f04 rfl (fun _ => rfl)
        refine e_rnum (by omega) _ _ hL ((f04 12 20 rfl rfl).trans eL) (show I3 12 21 + 1 = nI (p_c (I0 65) L a + 1) by rw [e3]; exact nI_1 _) (by omega) (by decide) (by decide) (fun r5 I5 f5 hr5 => ?_)
        rw [c1, ck, e654] at hr5
        have hr5 : nmQ (I0 65) L (p_t (I0 65) L a) 1 1000 r5 (I5 12 21) (I5 12 22) := hr5
        have f05 : mg_f2 [66] [(12, 21), (12, 22)] I0 I5 := f04.tr (f5.mono rfl rfl)
        have hpt : p_t (I0 65) L a ≤ L := sk_le (by omega)
        rcases hr5 with ⟨b5, e5, p5⟩ | ⟨b5, e5, p5⟩
        · subst e5
          refine And.intro (fun q => absurd q (by decide)) (fun _ => ?_)
          rw [rp_1 (show (pr (I0 65) L W a).1 = false by rw [pr_3 b c b5])] at D
          exact h _ _ f05 (Or.inr ⟨by rw [D], rfl, by rw [D, pr_3 b c b5]; exact p5⟩)
        · have bv5 := nmB_no b5
          have hv5 := dg_v (f := I0 65) hpt
          subst e5
          refine And.intro (fun _ => ?_) (fun q => absurd (by rw [mi_le, nI_toInt (by omega), c0]; omega) q)
          refine And.intro (vp_in_nI (by omega) (by decide)) ?_
          have P4 := pr_4 b c b5
          have b1 : (pr (I0 65) L W a).1 = true := by rw [P4]
          have hg : (p_g (I0 65) L W a) ≤ L := sk_le (pr_le ha)
          have f06 : mg_f2 [66] [(12, 21), (12, 22)] I0 (va_up I5 66 (upd (I5 66) (nI (dg (I0 65) L (sk (I0 65) L a) 0).2).toNatClampNeg (nI (dg (I0 65) L (p_t (I0 65) L a) 0).2))) := mg_f2.up f05 rfl
          have e656 : (va_up I5 66 (upd (I5 66) (nI (dg (I0 65) L (sk (I0 65) L a) 0).2).toNatClampNeg (nI (dg (I0 65) L (p_t (I0 65) L a) 0).2))) 65 = I0 65 := f2_fn f06 rfl (fun _ => rfl)
          have e665 : I5 66 = ap_u R0 U := by rw [f2_fn (c := 66) f5 rfl (fun _ => rfl)]; show I3 66 = _; rw [f2_fn (c := 66) f3 rfl (fun _ => rfl), f2_fn (c := 66) f2 rfl (fun _ => rfl)]; exact eU
          have e666 : upd (I5 66) (nI (dg (I0 65) L (sk (I0 65) L a) 0).2).toNatClampNeg (nI (dg (I0 65) L (p_t (I0 65) L a) 0).2) = ap_u R0 ((pr (I0 65) L W a).2.2 :: U) := by
            rw [nI_clamp (by omega), e665, P4]
            rfl
          refine e_next (by omega) hL ((f06 12 20 rfl rfl).trans eL) (show I5 12 21 = nI (dg (I0 65) L (p_t (I0 65) L a) 0).1 from p5) (dg_le hpt) (fun r7 I7 f7 e7 er7 => ?_)
          have hgg : sk (I0 65) L (dg (I0 65) L (p_t (I0 65) L a) 0).1 = (p_g (I0 65) L W a) := by unfold p_g; rw [P4]
          rw [e656, hgg] at e7 er7
          have f07 : mg_f2 [66] [(12, 21), (12, 22)] I0 I7 := f06.tr (f7.mono rfl rfl)
          have e657 : I7 65 = I0 65 := f2_fn f07 rfl (fun _ => rfl)
          have e667 : I7 66 = ap_u R0 ((pr (I0 65) L W a).2.2 :: U) := (f2_fn (c := 66) f7 rfl (fun _ => rfl)).trans e666
          have FIN : ¬ (0 < (k + 1) ∧ I0 65 (p_g (I0 65) L W a) = 44) ∨ ¬ (p_g (I0 65) L W a) < L → ∀ (fu : Nat) (y z : Option mv_V), 100 ≤ fu → mv_wp (mv_wpM mv_tab mv_sh d) mv_sh none tbX8_reads flX8 csX8 1 (fun _ _ _ _ _ => False) Q fu 37 [some (.inr (.inr 12)), some (.inl (n + 1)), some (.inl 0), y, z] [] (va_up I7 12 (upd (I7 12) 21 (I7 12 21 + 0))) J := by
            intro N fu y z hfu
            refine x_exit (g := (p_g (I0 65) L W a)) (by omega) hL ((mg_f2.uf f07 rfl : mg_f2 [66] [(12, 21), (12, 22)] I0 (va_up I7 12 (upd (I7 12) 21 (I7 12 21 + 0)))) 12 20 rfl rfl |>.trans eL) (fun j hj => by show ¬ I7 65 j = 0; rw [e657]; exact hb j hj) (show I7 12 21 + 0 = nI (p_g (I0 65) L W a) by rw [e7]; exact Int32.add_zero _) hg (by show sk (I7 65) L (p_g (I0 65) L W a) = (p_g (I0 65) L W a); rw [e657]; exact sk_sk (pr_le ha)) (fun r I' f' hr => ?_) fu hfu
            have f08 : mg_f2 [66] [(12, 21), (12, 22)] I0 I' := (mg_f2.uf f07 rfl : mg_f2 [66] [(12, 21), (12, 22)] I0 (va_up I7 12 (upd (I7 12) 21 (I7 12 21 + 0)))).tr (f'.mono rfl rfl)
            have e668 : I' 66 = ap_u R0 ((pr (I0 65) L W a).2.2 :: U) := (f2_fn (c := 66) f' rfl (fun _ => rfl)).trans e667
            rcases hr with ⟨g1, er⟩ | ⟨g1, er, ew8⟩
            · rw [rp_2 b1 g1] at D
              exact h _ _ f08 (Or.inl ⟨by rw [D], by rw [D, er, en]; exact nI_1 nn, by rw [D]; exact e668⟩)
            · rw [rp_3 b1 g1 (by rcases N with N | N; exact N; exact absurd g1 N)] at D
              exact h _ _ f08 (Or.inr ⟨by rw [D], er, by rw [D]; exact ew8⟩)
          by_cases c7 : (p_g (I0 65) L W a) < L ∧ I0 65 (p_g (I0 65) L W a) = 44
          · rw [if_pos c7.1, c7.2] at er7
            subst er7
            refine And.intro (fun q => absurd rfl q) (fun _ => ?_)
            refine And.intro (fun q8 => ?_) (fun q8 => ?_)
            · rw [mi_le, c8, tn1] at q8
              omega
            · refine And.intro (fun z => absurd z (by decide)) (fun _ => ?_)
              refine And.intro ?_ trivial
              rw [rp_4 b1 c7.1 ⟨by omega, c7.2⟩] at D
              exact ih _ (nn + 1) (p_g (I0 65) L W a + 1) _ _ _ _ _ _ (mg_f2.uf f07 rfl) (by rw [en]; exact nI_1 nn) (by omega) (by decide) (show I7 12 21 + 1 = nI (p_g (I0 65) L W a + 1) by rw [e7]; exact nI_1 _) (by omega) e667 D (by omega)
          · have r7 : ¬ r7 = 44 := by
              rw [er7]
              by_cases g1 : (p_g (I0 65) L W a) < L
              · rw [if_pos g1]; exact fun z => c7 ⟨g1, z⟩
              · rw [if_neg g1]; decide
            refine And.intro (fun _ => ?_) (fun q => absurd q r7)
            refine And.intro (fun _ => ?_) (fun z => absurd rfl z)
            refine And.intro ?_ trivial
            refine FIN ?_ _ _ _ (by omega)
            by_cases g1 : (p_g (I0 65) L W a) < L
            · exact Or.inl (fun z => c7 ⟨g1, z.2⟩)
            · exact Or.inr g1
      · have r3 : ¬ r3 = 58 := by
          rw [er3]
          by_cases g1 : p_c (I0 65) L a < L
          · rw [if_pos g1]; exact fun z => c ⟨g1, z⟩
          · rw [if_neg g1]; decide
        refine And.intro (fun q => absurd q r3) (fun _ => ?_)
        rw [rp_1 (show (pr (I0 65) L W a).1 = false by rw [pr_2 b c])] at D
        exact h _ _ (mg_f2.uf f03 rfl) (Or.inr ⟨by rw [D], rfl, by rw [D, pr_2 b c]; exact e3⟩)
set_option maxHeartbeats 1000000 in
theorem x_rd1 {d : Nat} (hd : 2 ≤ d) {J : mv_J} {Q : mv_Q} {I0 : mv_I} {L W : Nat} (hW : W ≤ 8) (eW : I0 12 0 = nI W) (hL : L ≤ 70) (eL : I0 12 20 = nI L) (hb : ∀ j, j < L → ¬ I0 65 j = 0) (h : ∀ (r : Int32) (I' : mv_I), mg_f2 [66] [(12, 21), (12, 22)] I0 I' → rdR (rp (I0 65) L W 8 0 0 []) (fun z => if z < W then I0 51 z else I0 66 z) r (I' 12 22) (I' 66) → Q (some (.inl r)) I' J) : ∀ (k fu i : Nat) (x : Int32) (I : mv_I), x = nI i → i + k = W → mg_f2 [66] [(12, 21), (12, 22)] I0 I → I 12 21 = nI 0 → I 66 = (fun z => if z < i then I0 51 z else I0 66 z) → 60 * (k + 1) + 1700 ≤ fu → mv_wp (mv_wpM mv_tab mv_sh d) mv_sh none tbX8_reads flX8 csX8 1 (fun _ _ _ _ _ => False) Q fu 7 [some (.inr (.inr 12)), some (.inl x), none, none, none] [] I J := by
  intro k
  induction k with
  | zero =>
    intro fu i x I ex hi f0 ea e66 hf
    obtain ⟨fu, rfl⟩ : ∃ z, fu = z + 60 := ⟨fu - 60, by omega⟩
    have ew : I 12 0 = nI W := (f0 12 0 rfl rfl).trans eW
    have ei : i = W := by omega
    subst ei
    refine And.intro (fun q => ?_) (fun q => ?_)
    · refine And.intro ?_ trivial
      exact x_reads hd hW eW hL eL hb h 7 _ 0 0 [] _ _ _ _ _ f0 nI_0.symm (by omega) (by decide) ea (by omega) e66 rfl (by omega)
    · exact absurd (by rw [ew, ex]; exact Int32.le_refl _) q
  | succ k ih =>
    intro fu i x I ex hi f0 ea e66 hf
    obtain ⟨fu, rfl⟩ : ∃ z, fu = z + 60 := ⟨fu - 60, by omega⟩
    have ew : I 12 0 = nI W := (f0 12 0 rfl rfl).trans eW
    have e51 : I 51 = I0 51 := f2_fn f0 rfl (fun _ => rfl)
    subst ex
    have cx : (nI i).toNatClampNeg = i := nI_clamp (by omega)
    refine And.intro (fun q => ?_) (fun q => ?_)
    · rw [ew] at q
      exact absurd q (nI_ge (by omega) (by omega))
    · have B : vp_in (nI i) 8 := vp_in_nI (by omega) (by decide)
      refine And.intro B ?_
      refine And.intro B ?_
      refine And.intro ?_ trivial
      refine ih _ (i + 1) _ _ (nI_1 i) (by omega) (mg_f2.up f0 rfl) ea ?_ (by omega)
      show upd (I 66) (nI i).toNatClampNeg (I 51 (nI i).toNatClampNeg) = _
      rw [cx, e51, e66]
      funext z
      unfold upd
      by_cases g : z = i
      · subst g
        rw [if_pos rfl, if_pos (by omega)]
      · rw [if_neg g]
        show (if z < i then I0 51 z else I0 66 z) = _
        by_cases g2 : z < i
        · rw [if_pos g2, if_pos (by omega)]
        · rw [if_neg g2, if_neg (by omega)]
set_option maxHeartbeats 1000000 in
theorem e_reads {d : Nat} (hd : 3 ≤ d) {I : mv_I} {J : mv_J} {Q : mv_Q} {L W : Nat} (hW : W ≤ 8) (eW : I 12 0 = nI W) (hL : L ≤ 70) (eL : I 12 20 = nI L) (hb : ∀ j, j < L → ¬ I 65 j = 0) (h : ∀ (r : Int32) (I' : mv_I), mg_f2 [66] [(12, 21), (12, 22)] I I' → rdR (rp (I 65) L W 8 0 0 []) (fun z => if z < W then I 51 z else I 66 z) r (I' 12 22) (I' 66) → Q (some (.inl r)) I' J) : mv_wpM mv_tab mv_sh d 103 [.inr (.inr 12)] I J Q := by
  obtain ⟨d, rfl⟩ : ∃ e, d = e + 1 := ⟨d - 1, by omega⟩
  refine (show ∃ fu9, mv_wp (mv_wpM mv_tab mv_sh d) mv_sh none tbX8_reads flX8 csX8 1 (fun _ _ _ _ _ => False) Q fu9 0 [some (.inr (.inr 12)), none, none, none, none] [] I J from ?_)
  refine ⟨2600, ?_⟩
  refine And.intro ?_ trivial
  refine x_rd1 (by omega) (I0 := I) hW eW hL eL hb h W _ 0 _ _ nI_0.symm (by omega) (mg_f2.uf mg_f2.rf rfl) (show (0 : Int32) = nI 0 from nI_0.symm) ?_ (Nat.le_trans (show 60 * (W + 1) + 1700 ≤ 2240 by omega) (Nat.le_of_ble_eq_true rfl))
  funext z
  show I 66 z = _
  rw [if_neg (by omega)]
set_option maxHeartbeats 1000000 in
theorem x_rpt {d : Nat} {n : Int32} {J : mv_J} {Q : mv_Q} {I0 : mv_I} {W : Nat} (hW : W ≤ 8) (eW : I0 12 0 = nI W) (h : ∀ (I' : mv_I), I' 51 = (fun z => if z < W then I0 66 z else I0 51 z) → Q (some (.inl n)) I' J) : ∀ (k fu i : Nat) (x : Int32) (I : mv_I), x = nI i → i + k = W → mg_f2 [51] [] I0 I → I 51 = (fun z => if z < i then I0 66 z else I0 51 z) → 60 * (k + 1) ≤ fu → mv_wp (mv_wpM mv_tab mv_sh d) mv_sh none tbX8_parts flX8 csX8 1 (fun _ _ _ _ _ => False) Q fu 24 [some (.inr (.inr 12)), some (.inl n), some (.inl x)] [] I J := by
  intro k
  induction k with
  | zero =>
    intro fu i x I ex hi f0 e51 hf
    obtain ⟨fu, rfl⟩ : ∃ z, fu = z + 60 := ⟨fu - 60, by omega⟩
    have ew : I 12 0 = nI W := (f0 12 0 rfl rfl).trans eW
    have ei : i = W := by omega
    subst ei
    refine And.intro (fun q => ?_) (fun q => ?_)
    · exact h _ e51
    · exact absurd (by rw [ew, ex]; exact Int32.le_refl _) q
  | succ k ih =>
    intro fu i x I ex hi f0 e51 hf
    obtain ⟨fu, rfl⟩ : ∃ z, fu = z + 60 := ⟨fu - 60, by omega⟩
    have ew : I 12 0 = nI W := (f0 12 0 rfl rfl).trans eW
    have e66 : I 66 = I0 66 := f2_fn f0 rfl (fun _ => rfl)
    subst ex
    have cx : (nI i).toNatClampNeg = i := nI_clamp (by omega)
    refine And.intro (fun q => ?_) (fun q => ?_)
    · rw [ew] at q
      exact absurd q (nI_ge (by omega) (by omega))
    · have B : vp_in (nI i) 8 := vp_in_nI (by omega) (by decide)
      refine And.intro B ?_
      refine And.intro B ?_
      refine And.intro ?_ trivial
      refine ih _ (i + 1) _ _ (nI_1 i) (by omega) (mg_f2.up f0 rfl) ?_ (by omega)
      show upd (I 51) (nI i).toNatClampNeg (I 66 (nI i).toNatClampNeg) = _
      rw [cx, e66, e51]
      funext z
      unfold upd
      by_cases g : z = i
      · subst g
        rw [if_pos rfl, if_pos (by omega)]
      · rw [if_neg g]
        show (if z < i then I0 66 z else I0 51 z) = _
        by_cases g2 : z < i
        · rw [if_pos g2, if_pos (by omega)]
        · rw [if_neg g2, if_neg (by omega)]
set_option maxHeartbeats 1000000 in
theorem E2_parts {d : Nat} (hd : 5 ≤ d) {I : mv_I} {J : mv_J} {Q : mv_Q} {L W : Nat} (hW : W ≤ 8) (eW : I 12 0 = nI W) (hL : L ≤ 70) (eL : I 12 20 = nI L) (hb : ∀ j, j < L → ¬ I 65 j = 0) (h : ∀ (r : Int32) (I' : mv_I), r = rs (rp (I 65) L W 8 0 0 []) → I' 51 = (if (rp (I 65) L W 8 0 0 []).1 = true then (fun z => if z < W then ap_u (fun z => if z < W then I 51 z else I 66 z) (rp (I 65) L W 8 0 0 []).2.2 z else I 51 z) else I 51) → Q (some (.inl r)) I' J) : mv_wpM mv_tab mv_sh d 104 [.inr (.inr 12)] I J Q := by
  obtain ⟨d, rfl⟩ : ∃ e, d = e + 1 := ⟨d - 1, by omega⟩
  refine (show ∃ fu9, mv_wp (mv_wpM mv_tab mv_sh d) mv_sh none tbX8_parts flX8 csX8 1 (fun _ _ _ _ _ => False) Q fu9 0 [some (.inr (.inr 12)), none, none] [] I J from ?_)
  refine ⟨700, ?_⟩
  have RA := rp_all (f := I 65) (L := L) (W := W) 8 0 0 [] (by omega) (fun q hq => absurd hq (by simp))
  have c0 : (0 : Int32).toInt = 0 := by decide
  refine e_reads (by omega) hW eW hL eL hb (fun r I2 f2 hr => ?_)
  have e51 : I2 51 = I 51 := f2_fn f2 rfl (fun _ => rfl)
  rcases hr with ⟨b, er, e66⟩ | ⟨b, er, w2⟩
  · have z := RA.2.1 b
    refine And.intro (fun q => ?_) (fun q => absurd (by rw [er, mi_le, nI_toInt (by omega), c0]; omega) q)
    refine And.intro ?_ trivial
    refine x_rpt (I0 := va_up I2 12 (upd (I2 12) 20 0)) hW (show I2 12 0 = nI W from (f2 12 0 rfl rfl).trans eW) (fun I3 e3 => ?_) W _ 0 _ _ nI_0.symm (by omega) mg_f2.rf ?_ (Nat.le_trans (show 60 * (W + 1) ≤ 540 by omega) (Nat.le_of_ble_eq_true rfl))
    · refine h _ _ (by rw [er]; exact (if_pos b).symm) ?_
      rw [if_pos b, e3]
      funext z
      show (if z < W then I2 66 z else I2 51 z) = _
      rw [e66, e51]
    · funext z
      show I2 51 z = _
      rw [if_neg (by omega)]
      rfl
  · refine And.intro (fun q => absurd q (by rw [er]; decide)) (fun _ => ?_)
    refine h _ _ ?_ (by rw [if_neg (by rw [b]; decide)]; exact e51)
    show -20 - I2 12 22 = _
    rw [w2]
    exact (if_neg (by rw [b]; decide)).symm
set_option maxHeartbeats 1000000 in
theorem x_rty2 {d : Nat} {w : Int64} {n : Int32} {J : mv_J} {Q : mv_Q} {I0 : mv_I} {l N : Nat} (hT : l + N ≤ 70) (hN : N ≤ 8) (h : ∀ (I' : mv_I), I' 65 = apd (I0 65) l w N → Q (some (.inl (I' 12 20))) I' J) : ∀ (k i fu : Nat) (x : Int32) (I : mv_I), x.toInt = (k : Int) - 1 → i + k = N → I 12 20 = nI (l + i) → I 65 = apm (I0 65) l w N i → 60 * (k + 1) ≤ fu → mv_wp (mv_wpM mv_tab mv_sh d) mv_sh none tbX8_type flX8 csX8 1 (fun _ _ _ _ _ => False) Q fu 70 [some (.inr (.inr 12)), some (.inr (.inl w)), none, some (.inl n), some (.inl x)] [] I J := by
  intro k
  have c0 : (0 : Int32).toInt = 0 := by decide
  induction k with
  | zero =>
    intro i fu x I ex hi e2 e65 hf
    obtain ⟨fu, rfl⟩ : ∃ z, fu = z + 60 := ⟨fu - 60, by omega⟩
    have ei : i = N := by omega
    subst ei
    refine And.intro (fun q => ?_) (fun q => ?_)
    · exact h _ e65
    · exact absurd (mi_lt.mpr (by omega)) q
  | succ k ih =>
    intro i fu x I ex hi e2 e65 hf
    obtain ⟨fu, rfl⟩ : ∃ z, fu = z + 60 := ⟨fu - 60, by omega⟩
    have exk : x = nI k := mi_eq.mpr (by rw [nI_toInt (by omega)]; omega)
    have e1 : (x + -1).toInt = x.toInt - 1 := mi_dec (by omega)
    have cl : (nI (l + i)).toNatClampNeg = l + i := nI_clamp (by omega)
    refine And.intro (fun q => ?_) (fun q => ?_)
    · rw [mi_lt] at q
      omega
    · refine And.intro (by rw [e2]; exact vp_in_nI (by omega) (by decide)) ?_
      refine And.intro ?_ trivial
      refine ih (i + 1) _ _ _ (by omega) (by omega) (show I 12 20 + 1 = nI (l + (i + 1)) by rw [e2]; exact nI_1 _) ?_ (by omega)
      show upd (I 65) (I 12 20).toNatClampNeg ((w >>> ((8 * x).toInt64 &&& 63)) &&& 255).toInt32 = _
      rw [bt_and, e2, cl, e65]
      show upd (apm (I0 65) l w N i) (l + i) (bt_of w x) = _
      rw [exk]
      exact apm_up (by omega)
set_option maxHeartbeats 1000000 in
theorem x_rty1 {d : Nat} (hd : 1 ≤ d) {w : Int64} {n : Int32} {J : mv_J} {Q : mv_Q} {I : mv_I} {N : Nat} (hN : n = nI N) (h1N : 1 ≤ N) (hN8 : N ≤ 8) (hl : rg (I 12 20) 0 70) (hb0 : ¬ (∀ k, k < N → bt_ok w k) → Q (some (.inl (-1))) I J) (hfl : ¬ (I 12 20).toInt + n.toInt ≤ 70 → Q (some (.inl (-3))) I J) (h : (I 12 20).toInt + n.toInt ≤ 70 → ∀ (I' : mv_I), I' 65 = apd (I 65) (I 12 20).toNatClampNeg w N → Q (some (.inl (I' 12 20))) I' J) : ∀ (k fu : Nat) (x : Int32) (i : Nat), x = nI i → i ≤ N → (∀ j, j < i → bt_ok w j) → N - i < k → 60 * k + 700 ≤ fu → mv_wp (mv_wpM mv_tab mv_sh d) mv_sh none tbX8_type flX8 csX8 1 (fun _ _ _ _ _ => False) Q fu 15 [some (.inr (.inr 12)), some (.inr (.inl w)), none, some (.inl n), some (.inl x)] [] I J := by
  intro k
  induction k with
  | zero => intro fu x i h0 h1 h2 h3 hf; omega
  | succ k ih =>
    intro fu x i h0 h1 h2 h3 hf
    obtain ⟨fu, rfl⟩ : ∃ z, fu = z + 60 := ⟨fu - 60, by omega⟩
    subst h0
    obtain ⟨l0, l1⟩ := id hl
    have kl := mi_cl l0
    have en : n.toInt = N := by rw [hN]; exact nI_toInt (by omega)
    refine And.intro (fun q => ?_) (fun q => ?_)
    · have ei : i = N := by
        rw [hN] at q
        have := (nI_leI (a := N) (b := i) (by omega) (by omega)).mp q
        omega
      subst ei
      have es : (I 12 20 + n).toInt = (I 12 20).toInt + n.toInt := mi_add (by omega) (by omega)
      have c70 : (70 : Int32).toInt = 70 := by decide
      refine And.intro (fun q2 => ?_) (fun q2 => ?_)
      · have q3 : (I 12 20).toInt + n.toInt ≤ 70 := by rw [mi_le, es, c70] at q2; exact q2
        have c1 : (1 : Int32).toInt = 1 := by decide
        have e4 : (n - 1).toInt = n.toInt - 1 := by rw [mi_sub (by omega) (by omega), c1]
        refine And.intro ?_ trivial
        exact x_rty2 (I0 := I) (l := (I 12 20).toNatClampNeg) (N := i) (by omega) hN8 (h q3) i 0 _ _ _ (by omega) (by omega) (show I 12 20 = nI ((I 12 20).toNatClampNeg + 0) from (mi_nI l0).symm) apm_0.symm (by omega)
      · exact hfl (fun z => q2 (by rw [mi_le, es, c70]; exact z))
    · have qx : i < N := by
        rw [hN] at q
        by_cases z : i < N
        · exact z
        · exact absurd ((nI_leI (a := N) (b := i) (by omega) (by omega)).mpr (by omega)) q
      refine c_in (by omega) _ 32 126 (fun p => ?_) (fun p => ?_)
      · first | refine And.intro (fun z => absurd z (by decide)) (fun _ => ?_) | refine And.intro (fun _ => ?_) (fun z => absurd z (by decide))
        rw [bt_and] at p
        have p : bt_ok w i := p
        refine And.intro ?_ trivial
        refine ih _ _ (i + 1) (nI_1 i) (by omega) (fun j hj => ?_) (by omega) (by omega)
        by_cases z : j = i
        · subst z; exact p
        · exact h2 j (by omega)
      · first | refine And.intro (fun z => absurd z (by decide)) (fun _ => ?_) | refine And.intro (fun _ => ?_) (fun z => absurd z (by decide))
        rw [bt_and] at p
        have p : ¬ bt_ok w i := p
        exact hb0 (fun z => p (z i qx))
set_option maxHeartbeats 1000000 in
theorem E2_type {d : Nat} (hd : 4 ≤ d) (n : Int32) (w : Int64) {I : mv_I} {J : mv_J} {Q : mv_Q} (hl : rg (I 12 20) 0 70) (h : ∀ (r : Int32) (I' : mv_I), (vt_ok w n → (I 12 20).toInt + n.toInt ≤ 70 → I' 65 = apd (I 65) (I 12 20).toNatClampNeg w n.toNatClampNeg) → Q (some (.inl r)) I' J) : mv_wpM mv_tab mv_sh d 100 [.inr (.inr 12), .inr (.inl w), .inl n] I J Q := by
  obtain ⟨d, rfl⟩ : ∃ e, d = e + 1 := ⟨d - 1, by omega⟩
  refine (show ∃ fu9, mv_wp (mv_wpM mv_tab mv_sh d) mv_sh none tbX8_type flX8 csX8 1 (fun _ _ _ _ _ => False) Q fu9 0 [some (.inr (.inr 12)), some (.inr (.inl w)), none, some (.inl n), none] [] I J from ?_)
  refine ⟨1400, ?_⟩
  refine c_in (by omega) n 1 8 (fun p1 => ?_) (fun p1 => ?_)
  · first | refine And.intro (fun z => absurd z (by decide)) (fun _ => ?_) | refine And.intro (fun _ => ?_) (fun z => absurd z (by decide))
    obtain ⟨N, hN, eN, cN⟩ := mi_18 p1
    have z := (mg_le p1).1
    have c1 : (1 : Int32).toInt = 1 := by decide
    have en : n.toInt = N := by rw [eN]; exact nI_toInt (by omega)
    refine And.intro ?_ trivial
    refine x_rty1 (by omega) eN (by omega) hN hl (fun b => ?_) (fun q => ?_) (fun q I2 g => ?_) 9 _ _ 0 nI_0.symm (by omega) (fun j hj => absurd hj (by omega)) (by omega) (Nat.le_of_ble_eq_true rfl)
    · exact h _ _ (fun z => absurd (by have := z.2; rw [cN] at this; exact this) b)
    · exact h _ _ (fun _ z => absurd z q)
    · exact h _ _ (fun _ _ => by rw [cN]; exact g)
  · first | refine And.intro (fun z => absurd z (by decide)) (fun _ => ?_) | refine And.intro (fun _ => ?_) (fun z => absurd z (by decide))
    exact h _ _ (fun z => absurd z.1 p1)
