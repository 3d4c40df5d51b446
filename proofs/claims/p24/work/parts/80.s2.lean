/-! the tape of the class: what it reads -/
theorem mn_ok {m b : Int32} (hm : rg m 0 100000) (hb0 : 48 ≤ b.toInt) (hb1 : b.toInt ≤ 57) : rg (if (100000 : Int32) < m * 10 + b - 48 then 100000 else m * 10 + b - 48) 0 100000 ∧ min (if (100000 : Int32) < m * 10 + b - 48 then (100000 : Int32) else m * 10 + b - 48).toInt.toNat 1001 = min (10 * min m.toInt.toNat 1001 + (b.toInt - 48).toNat) 1001 := by
  obtain ⟨m0, m1⟩ := hm
  have c10 : (10 : Int32).toInt = 10 := by decide
  have c48 : (48 : Int32).toInt = 48 := by decide
  have cc : (100000 : Int32).toInt = 100000 := by decide
  have e1 : (m * 10).toInt = m.toInt * 10 := by rw [mi_mul (by rw [c10]; omega) (by rw [c10]; omega), c10]
  have e2 : (m * 10 + b).toInt = m.toInt * 10 + b.toInt := by rw [mi_add (by rw [e1]; omega) (by rw [e1]; omega), e1]
  have e3 : (m * 10 + b - 48).toInt = m.toInt * 10 + b.toInt - 48 := by rw [mi_sub (by rw [e2, c48]; omega) (by rw [e2, c48]; omega), e2, c48]
  by_cases h : (100000 : Int32) < m * 10 + b - 48
  · rw [if_pos h]
    rw [mi_lt, cc, e3] at h
    exact ⟨⟨by rw [cc]; omega, by rw [cc]; omega⟩, by rw [cc]; omega⟩
  · rw [if_neg h]
    rw [mi_lt, cc, e3] at h
    exact ⟨⟨by rw [e3]; omega, by rw [e3]; omega⟩, by rw [e3]; omega⟩
theorem mn_ok2 {m b : Int32} (hm : rg m 0 100009) (hb0 : 48 ≤ b.toInt) (hb1 : b.toInt ≤ 57) (h : m.toInt ≤ 10000) : rg (10 * m + b - 48) 0 100009 ∧ min (10 * m + b - 48).toInt.toNat 1001 = min (10 * min m.toInt.toNat 1001 + (b.toInt - 48).toNat) 1001 := by
  obtain ⟨m0, m1⟩ := hm
  have c10 : (10 : Int32).toInt = 10 := by decide
  have c48 : (48 : Int32).toInt = 48 := by decide
  have e1 : (10 * m).toInt = 10 * m.toInt := by rw [mi_mul (by rw [c10]; omega) (by rw [c10]; omega), c10]
  have e2 : (10 * m + b).toInt = 10 * m.toInt + b.toInt := by rw [mi_add (by rw [e1]; omega) (by rw [e1]; omega), e1]
  have e3 : (10 * m + b - 48).toInt = 10 * m.toInt + b.toInt - 48 := by rw [mi_sub (by rw [e2, c48]; omega) (by rw [e2, c48]; omega), e2, c48]
  exact ⟨⟨by rw [e3]; omega, by rw [e3]; omega⟩, by rw [e3]; omega⟩
def nmR (f : Nat → Int32) (L s : Nat) (lo hi : Int) (r p : Int32) : Prop := (nmB f L s lo hi ∧ r = -1 ∧ p = nI s) ∨ (¬ nmB f L s lo hi ∧ r = nI (dg f L s 0).2 ∧ p = nI (dg f L s 0).1)
set_option maxHeartbeats 1000000 in
theorem x_skip {d : Nat} {J : mv_J} {Q : mv_Q} {I0 : mv_I} {L : Nat} (hL : L ≤ 70) (eL : I0 2 2 = nI L) : ∀ (k fu a : Nat) (I : mv_I), mg_f2 [] [(2, 3)] I0 I → I 2 3 = nI a → a ≤ L → L - a < k → 40 * k ≤ fu → (∀ (I' : mv_I), mg_f2 [] [(2, 3)] I0 I' → I' 2 3 = nI (sk (I0 24) L a) → Q none I' J) → mv_wp (mv_wpM mv_tab mv_sh d) mv_sh none tbX6_skipBlanks flX6 csX6 0 (fun _ _ _ _ _ => False) Q fu 0 [some (.inr (.inr 2))] [] I J := by
  intro k
  induction k with
  | zero => intro fu a I h0 h1 h2 h3 hf; omega
  | succ k ih =>
    intro fu a I f0 e0 ha hk hf h
    obtain ⟨fu, rfl⟩ : ∃ z, fu = z + 40 := ⟨fu - 40, by omega⟩
    have el : I 2 2 = nI L := (f0 2 2 rfl rfl).trans eL
    have e24 : I 24 = I0 24 := f2_fn f0 rfl (fun _ => rfl)
    have tL : (nI L).toInt = L := nI_toInt (by omega)
    have ta : (nI a).toInt = a := nI_toInt (by omega)
    have ca : (nI a).toNatClampNeg = a := nI_clamp (by omega)
    refine And.intro (fun q => ?_) (fun q => ?_)
    · rw [el, e0, mi_le, tL, ta] at q
      exact h _ f0 (by rw [sk_no (fun z => absurd z.1 (by omega))]; exact e0)
    · rw [el, e0, mi_le, tL, ta] at q
      refine And.intro (by rw [e0]; exact vp_in_nI (by omega) (by decide)) ?_
      refine And.intro (fun q2 => ?_) (fun q2 => ?_)
      · rw [e0, ca, e24] at q2
        exact h _ f0 (by rw [sk_no (fun z => q2 z.2)]; exact e0)
      · rw [e0, ca, e24] at q2
        refine And.intro ?_ trivial
        exact ih _ (a + 1) _ (mg_f2.uf f0 rfl) (show I 2 3 + 1 = nI (a + 1) by rw [e0]; exact nI_1 a) (by omega) (by omega) (by omega) (fun I' f' e' => h I' f' (by rw [sk_go (by omega) q2]; exact e'))
set_option maxHeartbeats 1000000 in
theorem e_skip {d : Nat} (hd : 1 ≤ d) {I : mv_I} {J : mv_J} {Q : mv_Q} {L a : Nat} (hL : L ≤ 70) (eL : I 2 2 = nI L) (ea : I 2 3 = nI a) (ha : a ≤ L) (h : ∀ (I' : mv_I), mg_f2 [] [(2, 3)] I I' → I' 2 3 = nI (sk (I 24) L a) → Q none I' J) : mv_wpM mv_tab mv_sh d 42 [.inr (.inr 2)] I J Q := by
  obtain ⟨d, rfl⟩ : ∃ e, d = e + 1 := ⟨d - 1, by omega⟩
  refine (show ∃ fu9, mv_wp (mv_wpM mv_tab mv_sh d) mv_sh none tbX6_skipBlanks flX6 csX6 0 (fun _ _ _ _ _ => False) Q fu9 0 [some (.inr (.inr 2))] [] I J from ?_)
  refine ⟨3000, ?_⟩
  exact x_skip hL eL 71 _ a _ mg_f2.rf ea ha (by omega) (Nat.le_of_ble_eq_true rfl) h
set_option maxHeartbeats 1000000 in
theorem x_num {d : Nat} (hd : 1 ≤ d) {lo hi fs : Int32} {s : Nat} {J : mv_J} {Q : mv_Q} {I0 : mv_I} {L : Nat} (hL : L ≤ 70) (eL : I0 2 2 = nI L) (hs : s ≤ L) (hlo : 0 ≤ lo.toInt) (hhi : hi.toInt ≤ 1000) (efs : fs = nI s) (h : ∀ (r : Int32) (I' : mv_I), mg_f2 [] [(2, 3)] I0 I' → nmR (I0 24) L s lo.toInt hi.toInt r (I' 2 3) → Q (some (.inl r)) I' J) : ∀ (k fu a : Nat) (m : Int32) (I : mv_I), mg_f2 [] [(2, 3)] I0 I → I 2 3 = nI a → s ≤ a → a ≤ L → rg m 0 100000 → dg (I0 24) L s 0 = dg (I0 24) L a (min m.toInt.toNat 1001) → L - a < k → 80 * k ≤ fu → mv_wp (mv_wpM mv_tab mv_sh d) mv_sh none tbX6_readNumber flX6 csX6 1 (fun _ _ _ _ _ => False) Q fu 12 [some (.inr (.inr 2)), some (.inl lo), some (.inl hi), some (.inl fs), some (.inl m)] [] I J := by
  subst efs
  intro k
  induction k with
  | zero => intro fu a m I h0 h1 h2 h3 h4 h5 h6 hf; omega
  | succ k ih =>
    intro fu a m I f0 e0 hsa ha hm D hk hf
    obtain ⟨fu, rfl⟩ : ∃ z, fu = z + 80 := ⟨fu - 80, by omega⟩
    have el : I 2 2 = nI L := (f0 2 2 rfl rfl).trans eL
    have e24 : I 24 = I0 24 := f2_fn f0 rfl (fun _ => rfl)
    have tL : (nI L).toInt = L := nI_toInt (by omega)
    have ta : (nI a).toInt = a := nI_toInt (by omega)
    have ts : (nI s).toInt = s := nI_toInt (by omega)
    have ca : (nI a).toNatClampNeg = a := nI_clamp (by omega)
    have c48 : (48 : Int32).toInt = 48 := by decide
    have c57 : (57 : Int32).toInt = 57 := by decide
    obtain ⟨m0, m1⟩ := id hm
    have EX : dg (I0 24) L s 0 = (a, min m.toInt.toNat 1001) → ∀ fu, 40 ≤ fu → mv_wp (mv_wpM mv_tab mv_sh d) mv_sh none tbX6_readNumber flX6 csX6 1 (fun _ _ _ _ _ => False) Q fu 89 [some (.inr (.inr 2)), some (.inl lo), some (.inl hi), some (.inl (nI s)), some (.inl m)] [] I J := by
      intro D2 fu hfu
      obtain ⟨fu, rfl⟩ : ∃ z, fu = z + 40 := ⟨fu - 40, by omega⟩
      have hB : nmB (I0 24) L s lo.toInt hi.toInt ↔ (a = s ∨ ¬ (lo.toInt ≤ ((min m.toInt.toNat 1001 : Nat) : Int) ∧ ((min m.toInt.toNat 1001 : Nat) : Int) ≤ hi.toInt)) := by
        unfold nmB
        rw [D2]
      refine And.intro (fun q => ?_) (fun q => ?_)
      · rw [e0] at q
        have q := congrArg Int32.toInt q
        rw [ta, ts] at q
        exact h _ _ (mg_f2.uf f0 rfl) (Or.inl ⟨hB.mpr (Or.inl (by omega)), rfl, rfl⟩)
      · have qa : ¬ a = s := fun z => q (by rw [e0, z])
        refine c_isWithin (by omega) m lo hi (fun p => ?_) (fun p => ?_)
        · first | refine And.intro (fun z => absurd z (by decide)) (fun _ => ?_) | refine And.intro (fun _ => ?_) (fun z => absurd z (by decide))
          rw [mi_le, mi_le] at p
          have hn : ¬ nmB (I0 24) L s lo.toInt hi.toInt := fun z => by
            rcases hB.mp z with z | z
            · exact qa z
            · exact z ⟨by omega, by omega⟩
          have em : m = nI (min m.toInt.toNat 1001) := mi_eq.mpr (by rw [nI_toInt (by omega)]; omega)
          exact h _ _ f0 (Or.inr ⟨hn, by rw [D2]; exact em, by rw [D2]; exact e0⟩)
        · first | refine And.intro (fun z => absurd z (by decide)) (fun _ => ?_) | refine And.intro (fun _ => ?_) (fun z => absurd z (by decide))
          exact h _ _ (mg_f2.uf f0 rfl) (Or.inl ⟨hB.mpr (Or.inr (fun z => p (by rw [mi_le, mi_le]; exact ⟨by omega, by omega⟩))), rfl, rfl⟩)
    refine And.intro (fun q => ?_) (fun q => ?_)
    · rw [el, e0, mi_le, tL, ta] at q
      exact EX (D.trans (dg_no (fun z => absurd z.1 (by omega)))) _ (by omega)
    · rw [el, e0, mi_le, tL, ta] at q
      have B : vp_in (I 2 3) 70 := by rw [e0]; exact vp_in_nI (by omega) (by decide)
      have eb : I 24 (I 2 3).toNatClampNeg = I0 24 a := by rw [e0, ca, e24]
      refine And.intro B ?_
      refine And.intro (fun q2 => ?_) (fun q2 => ?_)
      · rw [eb, mi_lt, c48] at q2
        exact EX (D.trans (dg_no (fun z => absurd z.2.1 (by omega)))) _ (by omega)
      · rw [eb, mi_lt, c48] at q2
        refine And.intro B ?_
        refine And.intro (fun q3 => ?_) (fun q3 => ?_)
        · rw [eb, mi_lt, c57] at q3
          exact EX (D.trans (dg_no (fun z => absurd z.2.2 (by omega)))) _ (by omega)
        · rw [eb, mi_lt, c57] at q3
          refine And.intro B ?_
          refine And.intro ?_ trivial
          have mk := mn_ok (m := m) (b := I0 24 a) hm (by omega) (by omega)
          refine ih _ (a + 1) _ _ (mg_f2.uf f0 rfl) (show I 2 3 + 1 = nI (a + 1) by rw [e0]; exact nI_1 a) (by omega) (by omega) ?_ ?_ (by omega) (by omega)
          · rw [eb]; exact mk.1
          · rw [eb, mk.2]; exact D.trans (dg_go (by omega) (by omega) (by omega))
set_option maxHeartbeats 1000000 in
theorem e_num {d : Nat} (hd : 2 ≤ d) (lo hi : Int32) {I : mv_I} {J : mv_J} {Q : mv_Q} {L a : Nat} (hL : L ≤ 70) (eL : I 2 2 = nI L) (ea : I 2 3 = nI a) (ha : a ≤ L) (hlo : 0 ≤ lo.toInt) (hhi : hi.toInt ≤ 1000) (h : ∀ (r : Int32) (I' : mv_I), mg_f2 [] [(2, 3)] I I' → nmR (I 24) L (sk (I 24) L a) lo.toInt hi.toInt r (I' 2 3) → Q (some (.inl r)) I' J) : mv_wpM mv_tab mv_sh d 43 [.inr (.inr 2), .inl lo, .inl hi] I J Q := by
  obtain ⟨d, rfl⟩ : ∃ e, d = e + 1 := ⟨d - 1, by omega⟩
  refine (show ∃ fu9, mv_wp (mv_wpM mv_tab mv_sh d) mv_sh none tbX6_readNumber flX6 csX6 1 (fun _ _ _ _ _ => False) Q fu9 0 [some (.inr (.inr 2)), some (.inl lo), some (.inl hi), none, none] [] I J from ?_)
  refine ⟨6000, ?_⟩
  refine e_skip (by omega) hL eL ea ha (fun I2 f2 e2 => ?_)
  refine And.intro ?_ trivial
  exact x_num (by omega) (I0 := I) hL eL (sk_le ha) hlo hhi e2 h 71 _ _ _ _ f2 e2 (Nat.le_refl _) (sk_le ha) ⟨by decide, by decide⟩ (by rw [show min (0 : Int32).toInt.toNat 1001 = 0 from by decide]) (by omega) (Nat.le_of_ble_eq_true rfl)
set_option maxHeartbeats 1000000 in
theorem e_sign {d : Nat} (hd : 2 ≤ d) (c : Int32) {I : mv_I} {J : mv_J} {Q : mv_Q} {L a : Nat} (hL : L ≤ 70) (eL : I 2 2 = nI L) (ea : I 2 3 = nI a) (ha : a ≤ L) (h1 : (sk (I 24) L a < L ∧ I 24 (sk (I 24) L a) = c) → ∀ (I' : mv_I), mg_f2 [] [(2, 3)] I I' → I' 2 3 = nI (sk (I 24) L a + 1) → Q (some (.inl 1)) I' J) (h0 : ¬ (sk (I 24) L a < L ∧ I 24 (sk (I 24) L a) = c) → ∀ (I' : mv_I), mg_f2 [] [(2, 3)] I I' → I' 2 3 = nI (sk (I 24) L a) → Q (some (.inl 0)) I' J) : mv_wpM mv_tab mv_sh d 44 [.inr (.inr 2), .inl c] I J Q := by
  obtain ⟨d, rfl⟩ : ∃ e, d = e + 1 := ⟨d - 1, by omega⟩
  refine (show ∃ fu9, mv_wp (mv_wpM mv_tab mv_sh d) mv_sh none tbX6_readSign flX6 csX6 2 (fun _ _ _ _ _ => False) Q fu9 0 [some (.inr (.inr 2)), some (.inl c)] [] I J from ?_)
  refine ⟨60, ?_⟩
  refine e_skip (by omega) hL eL ea ha (fun I2 f2 e2 => ?_)
  have hs := sk_le (f := I 24) ha
  have el : I2 2 2 = nI L := (f2 2 2 rfl rfl).trans eL
  have e24 : I2 24 = I 24 := f2_fn f2 rfl (fun _ => rfl)
  have tL : (nI L).toInt = L := nI_toInt (by omega)
  have ta : (nI (sk (I 24) L a)).toInt = sk (I 24) L a := nI_toInt (by omega)
  have ca : (nI (sk (I 24) L a)).toNatClampNeg = sk (I 24) L a := nI_clamp (by omega)
  refine And.intro (fun q => ?_) (fun q => ?_)
  · rw [el, e2, mi_le, tL, ta] at q
    exact And.intro (Or.inl rfl) (h0 (fun z => absurd z.1 (by omega)) _ f2 e2)
  · rw [el, e2, mi_le, tL, ta] at q
    refine And.intro (by rw [e2]; exact vp_in_nI (by omega) (by decide)) ?_
    refine And.intro (fun q2 => ?_) (fun q2 => ?_)
    · rw [e2, ca, e24] at q2
      exact And.intro (Or.inr rfl) (h1 ⟨by omega, q2⟩ _ (mg_f2.uf f2 rfl) (show I2 2 3 + 1 = nI (sk (I 24) L a + 1) by rw [e2]; exact nI_1 _))
    · rw [e2, ca, e24] at q2
      exact And.intro (Or.inl rfl) (h0 (fun z => q2 z.2) _ f2 e2)
def prR (f : Nat → Int32) (L W a : Nat) (T : Nat → Int32) (r p : Int32) (T' : Nat → Int32) : Prop := p = nI (pr f L W a).2.1 ∧ (((pr f L W a).1 = false ∧ r = 0 ∧ T' = T) ∨ ((pr f L W a).1 = true ∧ r = 1 ∧ T' = upd T (pr f L W a).2.2.1 (nI (pr f L W a).2.2.2)))
theorem nn0 {n : Nat} (h : n < 2 ^ 31) : ¬ nI n < 0 := by
  rw [mi_lt, nI_toInt h]
  have := mi_l
  omega
set_option maxHeartbeats 1000000 in
theorem e_pair {d : Nat} (hd : 3 ≤ d) (w : Int32) {I : mv_I} {J : mv_J} {Q : mv_Q} {L W a : Nat} (hW : W ≤ 8) (eW : w = nI W) (hL : L ≤ 70) (eL : I 2 2 = nI L) (ea : I 2 3 = nI a) (ha : a ≤ L) (h : ∀ (r : Int32) (I' : mv_I), mg_f2 [23] [(2, 3)] I I' → prR (I 24) L W a (I 23) r (I' 2 3) (I' 23) → Q (some (.inl r)) I' J) : mv_wpM mv_tab mv_sh d 45 [.inr (.inr 2), .inl w] I J Q := by
  obtain ⟨d, rfl⟩ : ∃ e, d = e + 1 := ⟨d - 1, by omega⟩
  refine (show ∃ fu9, mv_wp (mv_wpM mv_tab mv_sh d) mv_sh none tbX6_readPair flX6 csX6 2 (fun _ _ _ _ _ => False) Q fu9 0 [some (.inr (.inr 2)), some (.inl w), none, none] [] I J from ?_)
  refine ⟨60, ?_⟩
  have c1 : (1 : Int32).toInt = 1 := by decide
  have c0 : (0 : Int32).toInt = 0 := by decide
  have ck : (1000 : Int32).toInt = 1000 := by decide
  have tW : w.toInt = W := by rw [eW]; exact nI_toInt (by omega)
  have e4 : (w - 1).toInt = (W : Int) - 1 := by rw [mi_sub (by omega) (by omega), c1, tW]
  refine e_num (by omega) _ _ hL eL ea ha (by decide) (by rw [e4]; omega) (fun r I2 f2 hr => ?_)
  rw [c0, e4] at hr
  have e23 : I2 23 = I 23 := f2_fn f2 rfl (fun _ => rfl)
  have hs := sk_le (f := I 24) ha
  rcases hr with ⟨b, e, p⟩ | ⟨b, e, p⟩
  · subst e
    refine And.intro (fun _ => ?_) (fun q => absurd (by decide) q)
    exact And.intro (Or.inl rfl) (h _ _ (f2.mono rfl rfl) ⟨by rw [pr_1 b]; exact p, Or.inl ⟨by rw [pr_1 b], rfl, e23⟩⟩)
  · have bv := nmB_no b
    have hv := dg_v (f := I 24) hs
    subst e
    refine And.intro (fun q => absurd q (nn0 (by omega))) (fun _ => ?_)
    have el2 : I2 2 2 = nI L := (f2 2 2 rfl rfl).trans eL
    have e24 : I2 24 = I 24 := f2_fn f2 rfl (fun _ => rfl)
    have hc : sk (I2 24) L (dg (I 24) L (sk (I 24) L a) 0).1 = p_c (I 24) L a := by rw [e24]; rfl
    have hcl := p_c_le (f := I 24) ha
    refine e_sign (by omega) _ hL el2 p (dg_le hs) (fun c I3 f3 e3 => ?_) (fun c I3 f3 e3 => ?_)
    · rw [hc] at e3 c
      rw [e24] at c
      first | refine And.intro (fun z => absurd z (by decide)) (fun _ => ?_) | refine And.intro (fun _ => ?_) (fun z => absurd z (by decide))
      have f23 : mg_f2 [] [(2, 3)] I I3 := f2.tr f3
      have el3 : I3 2 2 = nI L := (f23 2 2 rfl rfl).trans eL
      have e243 : I3 24 = I 24 := f2_fn f23 rfl (fun _ => rfl)
      refine e_num (by omega) _ _ hL el3 e3 (by omega) (by decide) (by decide) (fun r4 I4 f4 hr4 => ?_)
      have f4' : mg_f2 [] [(2, 3)] I I4 := f23.tr f4
      have e234 : I4 23 = I 23 := f2_fn f4' rfl (fun _ => rfl)
      have ht : sk (I3 24) L (p_c (I 24) L a + 1) = p_t (I 24) L a := by rw [e243]; rfl
      rw [ht, e243, c1, ck] at hr4
      have hpt : p_t (I 24) L a ≤ L := sk_le (by omega)
      rcases hr4 with ⟨b4, e4', p4⟩ | ⟨b4, e4', p4⟩
      · subst e4'
        refine And.intro (fun q => absurd q (by decide)) (fun _ => ?_)
        exact And.intro (Or.inl rfl) (h _ _ (f4'.mono rfl rfl) ⟨by rw [pr_3 b c b4]; exact p4, Or.inl ⟨by rw [pr_3 b c b4], rfl, e234⟩⟩)
      · have bv4 := nmB_no b4
        have hv4 := dg_v (f := I 24) hpt
        subst e4'
        refine And.intro (fun _ => ?_) (fun q => absurd (by rw [mi_le, nI_toInt (by omega), c0]; omega) q)
        refine And.intro (vp_in_nI (by omega) (by decide)) ?_
        refine And.intro (Or.inr rfl) (h _ _ (mg_f2.up (f4'.mono rfl rfl) rfl) ⟨by rw [pr_4 b c b4]; exact p4, Or.inr ⟨by rw [pr_4 b c b4], rfl, ?_⟩⟩)
        rw [pr_4 b c b4]
        have z : upd (I4 23) (nI (dg (I 24) L (sk (I 24) L a) 0).2).toNatClampNeg (nI (dg (I 24) L (p_t (I 24) L a) 0).2) = upd (I 23) (dg (I 24) L (sk (I 24) L a) 0).2 (nI (dg (I 24) L (p_t (I 24) L a) 0).2) := by rw [nI_clamp (by omega), e234]
        exact z
    · rw [hc] at e3 c
      rw [e24] at c
      first | refine And.intro (fun z => absurd z (by decide)) (fun _ => ?_) | refine And.intro (fun _ => ?_) (fun z => absurd z (by decide))
      have f23 : mg_f2 [] [(2, 3)] I I3 := f2.tr f3
      have e233 : I3 23 = I 23 := f2_fn f23 rfl (fun _ => rfl)
      exact And.intro (Or.inl rfl) (h _ _ (f23.mono rfl rfl) ⟨by rw [pr_2 b c]; exact e3, Or.inl ⟨by rw [pr_2 b c], rfl, e233⟩⟩)
set_option maxHeartbeats 1000000 in
theorem x_pairs {d : Nat} (hd : 3 ≤ d) {w : Int32} {J : mv_J} {Q : mv_Q} {I0 : mv_I} {L W : Nat} {T0 : Nat → Int32} (hW : W ≤ 8) (eW : w = nI W) (hL : L ≤ 70) (eL : I0 2 2 = nI L) (h : ∀ (r : Int32) (I' : mv_I), mg_f2 [23] [(2, 3)] I0 I' → r = rs (rp (I0 24) L W 8 0 0 []) → I' 23 = ap_u T0 (rp (I0 24) L W 8 0 0 []).2.2 → Q (some (.inl r)) I' J) : ∀ (k fu n a : Nat) (U : List (Nat × Nat)) (x : Int32) (I : mv_I), mg_f2 [23] [(2, 3)] I0 I → x = nI (n + 1) → n + (k + 1) = 8 → I 2 3 = nI a → a ≤ L → I 23 = ap_u T0 U → rp (I0 24) L W 8 0 0 [] = rp (I0 24) L W (k + 1) n a U → 60 * (k + 1) ≤ fu → mv_wp (mv_wpM mv_tab mv_sh d) mv_sh none tbX6_readPairs flX6 csX6 1 (fun _ _ _ _ _ => False) Q fu 15 [some (.inr (.inr 2)), some (.inl w), some (.inl x)] [] I J := by
  intro k
  induction k with
  | zero =>
    intro fu n a U x I f0 ex hn ea ha eU D hf
    obtain ⟨fu, rfl⟩ : ∃ z, fu = z + 60 := ⟨fu - 60, by omega⟩
    have el : I 2 2 = nI L := (f0 2 2 rfl rfl).trans eL
    have e24 : I 24 = I0 24 := f2_fn f0 rfl (fun _ => rfl)
    have tx : x.toInt = n + 1 := by rw [ex]; exact nI_toInt (by omega)
    have c8 : (8 : Int32).toInt = 8 := by decide
    have hp := pr_le (f := I0 24) (W := W) ha
    have hg : p_g (I0 24) L W a ≤ L := sk_le hp
    refine And.intro (fun q => ?_) (fun q => ?_)
    · exact absurd q (by simp only [mi_le, mi_lt, c8, tx]; omega)
    · refine e_pair (by omega) _ hW eW hL el ea ha (fun r2 I2 f2 hr2 => ?_)
      have f02 : mg_f2 [23] [(2, 3)] I0 I2 := f0.tr f2
      have el2 : I2 2 2 = nI L := (f02 2 2 rfl rfl).trans eL
      have e242 : I2 24 = I0 24 := f2_fn f02 rfl (fun _ => rfl)
      rw [e24] at hr2
      obtain ⟨p2, hr2⟩ := hr2
      rcases hr2 with ⟨b, e, t⟩ | ⟨b, e, t⟩
      · subst e
        first | refine And.intro (fun z => absurd z (by decide)) (fun _ => ?_) | refine And.intro (fun _ => ?_) (fun z => absurd z (by decide))
        rw [rp_1 b] at D
        refine h _ _ f02 ?_ (by rw [D, t, eU])
        rw [D, p2]
        exact (if_neg Bool.false_ne_true).symm
      · subst e
        first | refine And.intro (fun z => absurd z (by decide)) (fun _ => ?_) | refine And.intro (fun _ => ?_) (fun z => absurd z (by decide))
        refine e_skip (by omega) hL el2 p2 hp (fun I3 f3 e3 => ?_)
        have f03 : mg_f2 [23] [(2, 3)] I0 I3 := f02.tr (f3.mono rfl rfl)
        have el3 : I3 2 2 = nI L := (f03 2 2 rfl rfl).trans eL
        have e243 : I3 24 = I0 24 := f2_fn f03 rfl (fun _ => rfl)
        have e233 : I3 23 = ap_u T0 ((pr (I0 24) L W a).2.2 :: U) := by rw [f2_fn (c := 23) f3 rfl (fun _ => rfl), t, eU]; rfl
        have hgg : sk (I2 24) L (pr (I0 24) L W a).2.1 = p_g (I0 24) L W a := by rw [e242]; rfl
        rw [hgg] at e3
        have tg : (nI (p_g (I0 24) L W a)).toInt = p_g (I0 24) L W a := nI_toInt (by omega)
        have tL : (nI L).toInt = L := nI_toInt (by omega)
        have sg : sk (I3 24) L (p_g (I0 24) L W a) = p_g (I0 24) L W a := by rw [e243]; exact sk_sk hp
        refine And.intro (fun q => ?_) (fun q => ?_)
        · rw [el3, e3, mi_lt, tL, tg] at q
          refine And.intro (fun q2 => ?_) (fun q2 => ?_)
          · rw [rp_3 b (by omega) (fun z => absurd z.1 (by omega))] at D
            refine h _ _ f03 ?_ (by rw [D]; exact e233)
            rw [D, e3]
            exact (if_neg Bool.false_ne_true).symm
          · exact absurd (mi_eq.mpr (by rw [tx, c8]; omega)) q2
        · rw [el3, e3, mi_lt, tL, tg] at q
          rw [rp_2 b (by omega)] at D
          refine h _ _ f03 ?_ (by rw [D]; exact e233)
          rw [D, ex]
          exact (if_pos rfl).symm
  | succ k ih =>
    intro fu n a U x I f0 ex hn ea ha eU D hf
    obtain ⟨fu, rfl⟩ : ∃ z, fu = z + 60 := ⟨fu - 60, by omega⟩
    have el : I 2 2 = nI L := (f0 2 2 rfl rfl).trans eL
    have e24 : I 24 = I0 24 := f2_fn f0 rfl (fun _ => rfl)
    have tx : x.toInt = n + 1 := by rw [ex]; exact nI_toInt (by omega)
    have c8 : (8 : Int32).toInt = 8 := by decide
    have hp := pr_le (f := I0 24) (W := W) ha
    have hg : p_g (I0 24) L W a ≤ L := sk_le hp
    refine And.intro (fun q => ?_) (fun q => ?_)
    · exact absurd q (by simp only [mi_le, mi_lt, c8, tx]; omega)
    · refine e_pair (by omega) _ hW eW hL el ea ha (fun r2 I2 f2 hr2 => ?_)
      have f02 : mg_f2 [23] [(2, 3)] I0 I2 := f0.tr f2
      have el2 : I2 2 2 = nI L := (f02 2 2 rfl rfl).trans eL
      have e242 : I2 24 = I0 24 := f2_fn f02 rfl (fun _ => rfl)
      rw [e24] at hr2
      obtain ⟨p2, hr2⟩ := hr2
      rcases hr2 with ⟨b, e, t⟩ | ⟨b, e, t⟩
      · subst e
        first | refine And.intro (fun z => absurd z (by decide)) (fun _ => ?_) | refine And.intro (fun _ => ?_) (fun z => absurd z (by decide))
        rw [rp_1 b] at D
        refine h _ _ f02 ?_ (by rw [D, t, eU])
        rw [D, p2]
        exact (if_neg Bool.false_ne_true).symm
      · subst e
        first | refine And.intro (fun z => absurd z (by decide)) (fun _ => ?_) | refine And.intro (fun _ => ?_) (fun z => absurd z (by decide))
        refine e_skip (by omega) hL el2 p2 hp (fun I3 f3 e3 => ?_)
        have f03 : mg_f2 [23] [(2, 3)] I0 I3 := f02.tr (f3.mono rfl rfl)
        have el3 : I3 2 2 = nI L := (f03 2 2 rfl rfl).trans eL
        have e243 : I3 24 = I0 24 := f2_fn f03 rfl (fun _ => rfl)
        have e233 : I3 23 = ap_u T0 ((pr (I0 24) L W a).2.2 :: U) := by rw [f2_fn (c := 23) f3 rfl (fun _ => rfl), t, eU]; rfl
        have hgg : sk (I2 24) L (pr (I0 24) L W a).2.1 = p_g (I0 24) L W a := by rw [e242]; rfl
        rw [hgg] at e3
        have tg : (nI (p_g (I0 24) L W a)).toInt = p_g (I0 24) L W a := nI_toInt (by omega)
        have tL : (nI L).toInt = L := nI_toInt (by omega)
        have sg : sk (I3 24) L (p_g (I0 24) L W a) = p_g (I0 24) L W a := by rw [e243]; exact sk_sk hp
        refine And.intro (fun q => ?_) (fun q => ?_)
        · rw [el3, e3, mi_lt, tL, tg] at q
          refine And.intro (fun q2 => ?_) (fun q2 => ?_)
          · have q2 := congrArg Int32.toInt q2
            rw [tx, c8] at q2
            omega
          · refine e_sign (by omega) _ hL el3 e3 hg (fun c I4 f4 e4 => ?_) (fun c I4 f4 e4 => ?_)
            · rw [sg] at c e4
              rw [e243] at c
              first | refine And.intro (fun z => absurd z (by decide)) (fun _ => ?_) | refine And.intro (fun _ => ?_) (fun z => absurd z (by decide))
              have f04 : mg_f2 [23] [(2, 3)] I0 I4 := f03.tr (f4.mono rfl rfl)
              rw [rp_4 b (by omega) ⟨by omega, c.2⟩] at D
              refine And.intro ?_ trivial
              exact ih _ (n + 1) (p_g (I0 24) L W a + 1) _ _ _ f04 (by rw [ex]; exact nI_1 (n + 1)) (by omega) e4 (by omega) (by rw [f2_fn (c := 23) f4 rfl (fun _ => rfl)]; exact e233) D (by omega)
            · rw [sg] at c e4
              rw [e243] at c
              first | refine And.intro (fun z => absurd z (by decide)) (fun _ => ?_) | refine And.intro (fun _ => ?_) (fun z => absurd z (by decide))
              have f04 : mg_f2 [23] [(2, 3)] I0 I4 := f03.tr (f4.mono rfl rfl)
              rw [rp_3 b (by omega) (fun z => c ⟨by omega, z.2⟩)] at D
              refine h _ _ f04 ?_ (by rw [D, f2_fn (c := 23) f4 rfl (fun _ => rfl)]; exact e233)
              rw [D, e4]
              exact (if_neg Bool.false_ne_true).symm
        · rw [el3, e3, mi_lt, tL, tg] at q
          rw [rp_2 b (by omega)] at D
          refine h _ _ f03 ?_ (by rw [D]; exact e233)
          rw [D, ex]
          exact (if_pos rfl).symm
set_option maxHeartbeats 1000000 in
theorem e_pairs {d : Nat} (hd : 4 ≤ d) (w : Int32) {I : mv_I} {J : mv_J} {Q : mv_Q} {L W : Nat} (hW : W ≤ 8) (eW : w = nI W) (hL : L ≤ 70) (eL : I 2 2 = nI L) (h : ∀ (r : Int32) (I' : mv_I), mg_f2 [23] [(2, 3)] I I' → r = rs (rp (I 24) L W 8 0 0 []) → I' 23 = ap_u (fun j => if 0 ≤ j ∧ j < 8 then 0 else I 23 j) (rp (I 24) L W 8 0 0 []).2.2 → Q (some (.inl r)) I' J) : mv_wpM mv_tab mv_sh d 46 [.inr (.inr 2), .inl w] I J Q := by
  obtain ⟨d, rfl⟩ : ∃ e, d = e + 1 := ⟨d - 1, by omega⟩
  refine (show ∃ fu9, mv_wp (mv_wpM mv_tab mv_sh d) mv_sh none tbX6_readPairs flX6 csX6 1 (fun _ _ _ _ _ => False) Q fu9 0 [some (.inr (.inr 2)), some (.inl w), none] [] I J from ?_)
  refine ⟨600, ?_⟩
  refine c_fill23 (by omega) 0 ?_
  refine And.intro ?_ trivial
  exact x_pairs (by omega) (I0 := I) (T0 := (fun j => if 0 ≤ j ∧ j < 8 then 0 else I 23 j)) hW eW hL eL h 7 _ 0 0 [] _ _ (mg_f2.uf (mg_f2.up mg_f2.rf rfl) rfl) (show (1 : Int32) = nI (0 + 1) by decide +kernel) (by omega) (show (0 : Int32) = nI 0 from nI_0.symm) (by omega) rfl rfl (Nat.le_of_ble_eq_true rfl)
theorem tkp_no {i : Nat} {T p : Nat → Int32} (h : ¬ 0 < (T i).toInt) : tkp (i + 1) T p = tkp i T p := by
  funext z
  unfold tkp
  by_cases e : z = i
  · subst e
    rw [if_neg (fun q => h q.2), if_neg (fun q => h q.2)]
  · by_cases g : z < i ∧ 0 < (T z).toInt
    · rw [if_pos g, if_pos ⟨by omega, g.2⟩]
    · rw [if_neg g, if_neg (fun q => g ⟨by omega, q.2⟩)]
theorem tkp_up {i : Nat} {T p : Nat → Int32} (h : 0 < (T i).toInt) : tkp (i + 1) T p = upd (tkp i T p) i (T i) := by
  funext z
  show (if z < i + 1 ∧ 0 < (T z).toInt then T z else p z) = (if z = i then T i else (if z < i ∧ 0 < (T z).toInt then T z else p z))
  by_cases e : z = i
  · subst e
    rw [if_pos rfl, if_pos ⟨by omega, h⟩]
  · rw [if_neg e]
    by_cases g : z < i ∧ 0 < (T z).toInt
    · rw [if_pos g, if_pos ⟨by omega, g.2⟩]
    · rw [if_neg g, if_neg (fun q => g ⟨by omega, q.2⟩)]
theorem tkp_0 {T p : Nat → Int32} : tkp 0 T p = p := by
  funext z
  unfold tkp
  rw [if_neg (fun q => absurd q.1 (by omega))]
set_option maxHeartbeats 1000000 in
theorem x_take {d : Nat} {J : mv_J} {Q : mv_Q} {I0 : mv_I} {W : Nat} (hW : W ≤ 8) (eW : I0 1 2 = nI W) (h : ∀ (I' : mv_I), I' 13 = tkp W (I0 23) (I0 13) → Q none I' J) : ∀ (k fu i : Nat) (x : Int32) (I : mv_I), x = nI i → i + k = W → mg_fr [13] I0 I → I 13 = tkp i (I0 23) (I0 13) → 60 * (k + 1) ≤ fu → mv_wp (mv_wpM mv_tab mv_sh d) mv_sh none tbX3_takeParts flX3 csX3 0 (fun _ _ _ _ _ => False) Q fu 2 [some (.inr (.inr 1)), some (.inr (.inr 23)), some (.inl x)] [] I J := by
  intro k
  induction k with
  | zero =>
    intro fu i x I ex hi f0 e13 hf
    obtain ⟨fu, rfl⟩ : ∃ z, fu = z + 60 := ⟨fu - 60, by omega⟩
    have ew : I 1 2 = nI W := (congrFun (f0 1 rfl) 2).trans eW
    have ei : i = W := by omega
    subst ei
    refine And.intro (fun q => ?_) (fun q => ?_)
    · exact h _ e13
    · exact absurd (by rw [ew, ex]; exact Int32.le_refl _) q
  | succ k ih =>
    intro fu i x I ex hi f0 e13 hf
    obtain ⟨fu, rfl⟩ : ∃ z, fu = z + 60 := ⟨fu - 60, by omega⟩
    have ew : I 1 2 = nI W := (congrFun (f0 1 rfl) 2).trans eW
    have e23 : I 23 = I0 23 := f0 23 rfl
    have c0 : (0 : Int32).toInt = 0 := by decide
    subst ex
    have cx : (nI i).toNatClampNeg = i := nI_clamp (by omega)
    refine And.intro (fun q => ?_) (fun q => ?_)
    · rw [ew] at q
      exact absurd q (nI_ge (by omega) (by omega))
    · have B : vp_in (nI i) 8 := vp_in_nI (by omega) (by decide)
      refine And.intro B ?_
      refine And.intro (fun q2 => ?_) (fun q2 => ?_)
      · rw [cx, e23, mi_le, c0] at q2
        refine And.intro ?_ trivial
        exact ih _ (i + 1) _ _ (nI_1 i) (by omega) f0 (by rw [tkp_no (by omega)]; exact e13) (by omega)
      · rw [cx, e23, mi_le, c0] at q2
        refine And.intro B ?_
        refine And.intro B ?_
        refine And.intro ?_ trivial
        refine ih _ (i + 1) _ _ (nI_1 i) (by omega) (mg_fr.up f0 rfl) ?_ (by omega)
        show upd (I 13) (nI i).toNatClampNeg (I 23 (nI i).toNatClampNeg) = _
        rw [cx, e23, e13, tkp_up (by omega)]
set_option maxHeartbeats 1000000 in
theorem e_take {d : Nat} (hd : 1 ≤ d) {I : mv_I} {J : mv_J} {Q : mv_Q} {W : Nat} (hW : W ≤ 8) (eW : I 1 2 = nI W) (h : ∀ (I' : mv_I), I' 13 = tkp W (I 23) (I 13) → Q none I' J) : mv_wpM mv_tab mv_sh d 24 [.inr (.inr 1), .inr (.inr 23)] I J Q := by
  obtain ⟨d, rfl⟩ : ∃ e, d = e + 1 := ⟨d - 1, by omega⟩
  refine (show ∃ fu9, mv_wp (mv_wpM mv_tab mv_sh d) mv_sh none tbX3_takeParts flX3 csX3 0 (fun _ _ _ _ _ => False) Q fu9 0 [some (.inr (.inr 1)), some (.inr (.inr 23)), none] [] I J from ?_)
  refine ⟨600, ?_⟩
  refine And.intro ?_ trivial
  exact x_take hW eW h W _ 0 _ _ nI_0.symm (by omega) mg_fr.rf tkp_0.symm (Nat.le_trans (show 60 * (W + 1) ≤ 540 by omega) (Nat.le_of_ble_eq_true rfl))
set_option maxHeartbeats 1000000 in
theorem E_parts {d : Nat} (hd : 5 ≤ d) {I : mv_I} {J : mv_J} {Q : mv_Q} {L W : Nat} (hW : W ≤ 8) (eW : I 1 2 = nI W) (hL : L ≤ 70) (eL : I 2 2 = nI L) (h : ∀ (r : Int32) (I' : mv_I), r = rs (rp (I 24) L W 8 0 0 []) → I' 13 = (if (rp (I 24) L W 8 0 0 []).1 = true then tkp W (ap_u (fun j => if 0 ≤ j ∧ j < 8 then 0 else I 23 j) (rp (I 24) L W 8 0 0 []).2.2) (I 13) else I 13) → Q (some (.inl r)) I' J) : mv_wpM mv_tab mv_sh d 61 [.inr (.inr 0)] I J Q := by
  obtain ⟨d, rfl⟩ : ∃ e, d = e + 1 := ⟨d - 1, by omega⟩
  refine (show ∃ fu9, mv_wp (mv_wpM mv_tab mv_sh d) mv_sh none tbX7_parts flX7 csX7 1 (fun _ _ _ _ _ => False) Q fu9 0 [some (.inr (.inr 0)), none] [] I J from ?_)
  refine ⟨60, ?_⟩
  refine e_pairs (by omega) _ hW eW hL eL (fun r I2 f2 er e23 => ?_)
  have RA := rp_all (f := I 24) (L := L) (W := W) 8 0 0 [] (by omega) (fun q hq => absurd hq (by simp))
  have c0 : (0 : Int32).toInt = 0 := by decide
  have c20 : (-20 : Int32).toInt = -20 := by decide
  have e13 : I2 13 = I 13 := f2_fn f2 rfl (fun _ => rfl)
  refine And.intro (fun q => ?_) (fun q => ?_)
  · have hok : (rp (I 24) L W 8 0 0 []).1 = false := by
      cases hh : (rp (I 24) L W 8 0 0 []).1 with
      | false => rfl
      | true =>
        exfalso
        have z := RA.2.1 hh
        rw [er] at q
        unfold rs at q
        rw [if_pos hh, mi_le, nI_toInt (by omega), c0] at q
        omega
    exact h _ _ er (by rw [if_neg (by rw [hok]; decide)]; exact e13)
  · have hok : (rp (I 24) L W 8 0 0 []).1 = true := by
      cases hh : (rp (I 24) L W 8 0 0 []).1 with
      | true => rfl
      | false =>
        exfalso
        have z := RA.2.2 hh
        rw [er] at q
        unfold rs at q
        have t1 : (nI (rp (I 24) L W 8 0 0 []).2.1).toInt = (rp (I 24) L W 8 0 0 []).2.1 := nI_toInt (by omega)
        rw [if_neg (by rw [hh]; decide), mi_le, mi_sub (by rw [c20, t1]; omega) (by rw [c20, t1]; omega), c20, t1, c0] at q
        omega
    refine e_take (by omega) hW (show I2 1 2 = nI W from (f2 1 2 rfl rfl).trans eW) (fun I3 e3 => ?_)
    refine h _ _ er ?_
    rw [if_pos hok, e3]
    show tkp W (I2 23) (I2 13) = _
    rw [e23, e13]
/-! what is typed, exactly -/
def apd (f : Nat → Int32) (l : Nat) (w : Int64) (n : Nat) : Nat → Int32 := fun z => if l ≤ z ∧ z < l + n then bt_of w (nI (l + n - 1 - z)) else f z
def apm (f : Nat → Int32) (l : Nat) (w : Int64) (n i : Nat) : Nat → Int32 := fun z => if l ≤ z ∧ z < l + i then bt_of w (nI (l + n - 1 - z)) else f z
theorem apm_0 {f : Nat → Int32} {l n : Nat} {w : Int64} : apm f l w n 0 = f := by
  funext z
  unfold apm
  rw [if_neg (by omega)]
theorem apm_up {f : Nat → Int32} {l n i k : Nat} {w : Int64} (h : i + (k + 1) = n) : upd (apm f l w n i) (l + i) (bt_of w (nI k)) = apm f l w n (i + 1) := by
  funext z
  unfold upd apm
  by_cases e : z = l + i
  · subst e
    rw [if_pos rfl, if_pos ⟨by omega, by omega⟩, show l + n - 1 - (l + i) = k by omega]
  · rw [if_neg e]
    by_cases g : l ≤ z ∧ z < l + i
    · rw [if_pos g, if_pos ⟨g.1, by omega⟩]
    · rw [if_neg g, if_neg (by omega)]
theorem nar_ok {x : Int32} (h0 : 32 ≤ x ∧ x ≤ 126) : x.toInt8.toInt32 = x := by
  have c32 : (32 : Int32).toInt = 32 := by decide
  have cx : (126 : Int32).toInt = 126 := by decide
  rw [mi_le, mi_le, c32, cx] at h0
  exact mi_eq.mpr (by rw [Int8.toInt_toInt32, Int32.toInt_toInt8]; exact Int.bmod_eq_of_le (by omega) (by omega))
set_option maxHeartbeats 1000000 in
theorem x_app {d : Nat} (hd : 1 ≤ d) {w : Int64} {n : Int32} {J : mv_J} {Q : mv_Q} {I0 : mv_I} {l N : Nat} (hT : l + N ≤ 70) (hN : N ≤ 8) (hb : ∀ k, k < N → bt_ok w k) (h : ∀ (I' : mv_I), I' 24 = apd (I0 24) l w N → Q (some (.inl (I' 2 2))) I' J) : ∀ (k i fu : Nat) (x : Int32) (I : mv_I), x.toInt = (k : Int) - 1 → i + k = N → I 2 2 = nI (l + i) → I 24 = apm (I0 24) l w N i → 60 * (k + 1) ≤ fu → mv_wp (mv_wpM mv_tab mv_sh d) mv_sh none tbX6_append flX6 csX6 1 (fun _ _ _ _ _ => False) Q fu 19 [some (.inr (.inr 2)), some (.inr (.inl w)), none, some (.inl n), some (.inl x)] [] I J := by
  intro k
  have c0 : (0 : Int32).toInt = 0 := by decide
  induction k with
  | zero =>
    intro i fu x I ex hi e2 e24 hf
    obtain ⟨fu, rfl⟩ : ∃ z, fu = z + 60 := ⟨fu - 60, by omega⟩
    have ei : i = N := by omega
    subst ei
    refine And.intro (fun q => ?_) (fun q => ?_)
    · exact h _ e24
    · exact absurd (mi_lt.mpr (by omega)) q
  | succ k ih =>
    intro i fu x I ex hi e2 e24 hf
    obtain ⟨fu, rfl⟩ : ∃ z, fu = z + 60 := ⟨fu - 60, by omega⟩
    have exk : x = nI k := mi_eq.mpr (by rw [nI_toInt (by omega)]; omega)
    have e1 : (x + -1).toInt = x.toInt - 1 := mi_dec (by omega)
    have cl : (nI (l + i)).toNatClampNeg = l + i := nI_clamp (by omega)
    refine And.intro (fun q => ?_) (fun q => ?_)
    · rw [mi_lt] at q
      omega
    · refine c_byteOf (by omega) _ _ ?_
      refine And.intro (by rw [e2]; exact vp_in_nI (by omega) (by decide)) ?_
      refine And.intro ?_ trivial
      refine ih (i + 1) _ _ _ (by omega) (by omega) (show I 2 2 + 1 = nI (l + (i + 1)) by rw [e2]; exact nI_1 _) ?_ (by omega)
      show upd (I 24) (I 2 2).toNatClampNeg (((bt_of w x).toInt8.toInt32).toInt8.toInt32) = _
      have hb1 : 32 ≤ bt_of w x ∧ bt_of w x ≤ 126 := by rw [exk]; exact hb k (by omega)
      rw [nar_ok hb1, nar_ok hb1, e2, cl, e24, exk]
      exact apm_up (by omega)
set_option maxHeartbeats 1000000 in
theorem e_app {d : Nat} (hd : 2 ≤ d) (n : Int32) (w : Int64) {I : mv_I} {J : mv_J} {Q : mv_Q} {N : Nat} (eN : n = nI N) (hN : N ≤ 8) (hb : ∀ k, k < N → bt_ok w k) (hl : rg (I 2 2) 0 70) (hn : rg n 1 8) (h0 : ¬ (I 2 2).toInt + n.toInt ≤ 70 → Q (some (.inl (-3))) I J) (h1 : (I 2 2).toInt + n.toInt ≤ 70 → ∀ (I' : mv_I), I' 24 = apd (I 24) (I 2 2).toNatClampNeg w N → Q (some (.inl (I' 2 2))) I' J) : mv_wpM mv_tab mv_sh d 41 [.inr (.inr 2), .inr (.inl w), .inl n] I J Q := by
  obtain ⟨d, rfl⟩ : ∃ e, d = e + 1 := ⟨d - 1, by omega⟩
  refine (show ∃ fu9, mv_wp (mv_wpM mv_tab mv_sh d) mv_sh none tbX6_append flX6 csX6 1 (fun _ _ _ _ _ => False) Q fu9 0 [some (.inr (.inr 2)), some (.inr (.inl w)), none, some (.inl n), none] [] I J from ?_)
  refine ⟨600, ?_⟩
  obtain ⟨hl0, hl1⟩ := hl
  obtain ⟨hn0, hn1⟩ := hn
  have c70 : (70 : Int32).toInt = 70 := by decide
  have c1 : (1 : Int32).toInt = 1 := by decide
  have e3 : (70 - I 2 2).toInt = 70 - (I 2 2).toInt := by rw [mi_sub (by omega) (by omega), c70]
  have e4 : (n - 1).toInt = n.toInt - 1 := by rw [mi_sub (by omega) (by omega), c1]
  have en : n.toInt = N := by rw [eN]; exact nI_toInt (by omega)
  have kl := mi_cl hl0
  refine And.intro (fun q => ?_) (fun q => ?_)
  · have qx : n.toInt ≤ (70 - I 2 2).toInt := mi_le.mp q
    refine And.intro ?_ trivial
    exact x_app (by omega) (I0 := I) (l := (I 2 2).toNatClampNeg) (N := N) (by omega) hN hb (h1 (by omega)) N 0 _ _ _ (by omega) (by omega) (show I 2 2 = nI ((I 2 2).toNatClampNeg + 0) from (mi_nI hl0).symm) apm_0.symm (Nat.le_trans (show 60 * (N + 1) ≤ 540 by omega) (Nat.le_of_ble_eq_true rfl))
  · exact h0 (fun z => q (mi_le.mpr (by omega)))
set_option maxHeartbeats 1000000 in
theorem E_type {d : Nat} (hd : 4 ≤ d) (n : Int32) (w : Int64) {I : mv_I} {J : mv_J} {Q : mv_Q} (hl : rg (I 2 2) 0 70) (h : ∀ (r : Int32) (I' : mv_I), (vt_ok w n → (I 2 2).toInt + n.toInt ≤ 70 → I' 24 = apd (I 24) (I 2 2).toNatClampNeg w n.toNatClampNeg) → Q (some (.inl r)) I' J) : mv_wpM mv_tab mv_sh d 60 [.inr (.inr 0), .inr (.inl w), .inl n] I J Q := by
  obtain ⟨d, rfl⟩ : ∃ e, d = e + 1 := ⟨d - 1, by omega⟩
  refine (show ∃ fu9, mv_wp (mv_wpM mv_tab mv_sh d) mv_sh none tbX7_type flX7 csX7 1 (fun _ _ _ _ _ => False) Q fu9 0 [some (.inr (.inr 0)), some (.inr (.inl w)), none, some (.inl n)] [] I J from ?_)
  refine ⟨60, ?_⟩
  refine c_isWithin (by omega) n 1 8 (fun p1 => ?_) (fun p1 => ?_)
  · first | refine And.intro (fun z => absurd z (by decide)) (fun _ => ?_) | refine And.intro (fun _ => ?_) (fun z => absurd z (by decide))
    obtain ⟨N, hN, eN, cN⟩ := mi_18 p1
    refine c_canHold (by omega) n w eN hN (fun p2 => ?_) (fun p2 => ?_)
    · first | refine And.intro (fun z => absurd z (by decide)) (fun _ => ?_) | refine And.intro (fun _ => ?_) (fun z => absurd z (by decide))
      refine e_app (by omega) n w eN hN p2 hl (mg_le p1) (fun q => ?_) (fun q I2 g => ?_)
      · exact h _ _ (fun _ z => absurd z q)
      · exact h _ _ (fun _ _ => by rw [cN]; exact g)
    · first | refine And.intro (fun z => absurd z (by decide)) (fun _ => ?_) | refine And.intro (fun _ => ?_) (fun z => absurd z (by decide))
      exact h _ _ (fun z => absurd (by have := z.2; rw [cN] at this; exact this) p2)
  · first | refine And.intro (fun z => absurd z (by decide)) (fun _ => ?_) | refine And.intro (fun _ => ?_) (fun z => absurd z (by decide))
    exact h _ _ (fun z => absurd z.1 p1)
