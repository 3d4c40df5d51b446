/-! the class's quota -/
set_option maxHeartbeats 1000000 in
theorem x_open {d : Nat} {w a n : Int32} {I : mv_I} {J : mv_J} {Q : mv_Q} {N : Nat} (hN : N ≤ 100) (eN : n = nI N) (h : Q (some (.inl (if (ofs (I 15) (I 16) (I 19) a w N).1 = true then 1 else 0))) I J) : ∀ (k fu i : Nat) (o la x : Int32), x = nI i → i + k = N → o = (if (ofs (I 15) (I 16) (I 19) a w i).1 = true then 1 else 0) → la = (ofs (I 15) (I 16) (I 19) a w i).2 → 80 * (k + 1) ≤ fu → mv_wp (mv_wpM mv_tab mv_sh d) mv_sh none tbX3_isOpen flX3 csX3 2 (fun _ _ _ _ _ => False) Q fu 9 [some (.inr (.inr 1)), some (.inl w), some (.inl a), some (.inl n), some (.inl o), some (.inl la), some (.inl x)] [] I J := by
  subst eN
  intro k
  induction k with
  | zero =>
    intro fu i o la x ex hi eo el hf
    obtain ⟨fu, rfl⟩ : ∃ z, fu = z + 80 := ⟨fu - 80, by omega⟩
    have ei : i = N := by omega
    subst ei ex
    refine And.intro (fun q => ?_) (fun q => absurd (Int32.le_refl _) q)
    refine And.intro ?_ (by rw [eo]; exact h)
    rw [eo]
    split
    · exact Or.inr rfl
    · exact Or.inl rfl
  | succ k ih =>
    intro fu i o la x ex hi eo el hf
    obtain ⟨fu, rfl⟩ : ∃ z, fu = z + 80 := ⟨fu - 80, by omega⟩
    subst ex
    have cx : (nI i).toNatClampNeg = i := nI_clamp (by omega)
    have B : vp_in (nI i) 100 := vp_in_nI (by omega) (by decide)
    have SK : ¬ (¬ I 15 i = 0 ∧ I 16 i = w ∧ I 19 i ≤ a ∧ (ofs (I 15) (I 16) (I 19) a w i).2 ≤ I 19 i) → ∀ fu, 80 * (k + 1) ≤ fu → mv_wp (mv_wpM mv_tab mv_sh d) mv_sh none tbX3_isOpen flX3 csX3 2 (fun _ _ _ _ _ => False) Q fu 9 [some (.inr (.inr 1)), some (.inl w), some (.inl a), some (.inl (nI N)), some (.inl o), some (.inl la), some (.inl (nI i + 1))] [] I J := fun nc fu hf => ih _ (i + 1) _ _ _ (nI_1 i) (by omega) (by rw [ofs_n nc]; exact eo) (by rw [ofs_n nc]; exact el) hf
    refine And.intro (fun q => absurd q (nI_ge (by omega) (by omega))) (fun q => ?_)
    refine And.intro B ?_
    refine And.intro (fun q1 => ?_) (fun q1 => ?_)
    · rw [cx] at q1
      refine And.intro ?_ trivial
      exact SK (fun z => z.1 q1) _ (by omega)
    · rw [cx] at q1
      refine And.intro B ?_
      refine And.intro (fun q2 => ?_) (fun q2 => ?_)
      · rw [cx] at q2
        refine And.intro ?_ trivial
        exact SK (fun z => q2 z.2.1) _ (by omega)
      · rw [cx] at q2
        refine And.intro B ?_
        refine And.intro (fun q3 => ?_) (fun q3 => ?_)
        · rw [cx] at q3
          refine And.intro ?_ trivial
          exact SK (fun z => by have := z.2.2.1; rw [mi_le] at this; rw [mi_lt] at q3; omega) _ (by omega)
        · rw [cx] at q3
          refine And.intro B ?_
          refine And.intro (fun q4 => ?_) (fun q4 => ?_)
          · rw [cx] at q4
            refine And.intro ?_ trivial
            exact SK (fun z => by have := z.2.2.2; rw [← el, mi_le] at this; rw [mi_lt] at q4; omega) _ (by omega)
          · rw [cx] at q4
            have C : ¬ I 15 i = 0 ∧ I 16 i = w ∧ I 19 i ≤ a ∧ (ofs (I 15) (I 16) (I 19) a w i).2 ≤ I 19 i := ⟨q1, q2, by rw [mi_le]; rw [mi_lt] at q3; omega, by rw [← el, mi_le]; rw [mi_lt] at q4; omega⟩
            refine And.intro B ?_
            refine And.intro B ?_
            refine And.intro (fun q5 => ?_) (fun q5 => ?_)
            · rw [cx] at q5
              refine And.intro ?_ trivial
              exact ih _ (i + 1) _ _ _ (nI_1 i) (by omega) (by rw [ofs_y C]; exact (if_neg (by show ¬ decide (I 15 i = 2) = true; rw [decide_eq_true_iff]; exact q5)).symm) (by rw [ofs_y C, cx]) (by omega)
            · rw [cx] at q5
              refine And.intro ?_ trivial
              exact ih _ (i + 1) _ _ _ (nI_1 i) (by omega) (by rw [ofs_y C]; exact (if_pos (decide_eq_true q5)).symm) (by rw [ofs_y C, cx]) (by omega)
set_option maxHeartbeats 1000000 in
theorem e_open {d : Nat} (hd : 1 ≤ d) (w a n : Int32) {I : mv_I} {J : mv_J} {Q : mv_Q} {N : Nat} (hN : N ≤ 100) (eN : n = nI N) (h : Q (some (.inl (if (ofs (I 15) (I 16) (I 19) a w N).1 = true then 1 else 0))) I J) : mv_wpM mv_tab mv_sh d 28 [.inr (.inr 1), .inl w, .inl a, .inl n] I J Q := by
  obtain ⟨d, rfl⟩ : ∃ e, d = e + 1 := ⟨d - 1, by omega⟩
  refine (show ∃ fu9, mv_wp (mv_wpM mv_tab mv_sh d) mv_sh none tbX3_isOpen flX3 csX3 2 (fun _ _ _ _ _ => False) Q fu9 0 [some (.inr (.inr 1)), some (.inl w), some (.inl a), some (.inl n), none, none, none] [] I J from ?_)
  refine ⟨9000, ?_⟩
  refine And.intro ?_ trivial
  exact x_open hN eN h N _ 0 _ _ _ nI_0.symm (by omega) (if_pos rfl).symm rfl (Nat.le_trans (show 80 * (N + 1) ≤ 8080 by omega) (Nat.le_of_ble_eq_true rfl))
set_option maxHeartbeats 1000000 in
theorem x_lent {d : Nat} {w a n : Int32} {I : mv_I} {J : mv_J} {Q : mv_Q} {N : Nat} (hN : N ≤ 100) (eN : n = nI N) (hm : ∀ j, rg (I 18 j) 0 100000) (h : ∀ r : Int32, r.toInt = lz (I 15) (I 16) (I 17) (I 18) (I 19) a w N → Q (some (.inl r)) I J) : ∀ (k fu i : Nat) (m x : Int32), x = nI i → i + k = N → m.toInt = lz (I 15) (I 16) (I 17) (I 18) (I 19) a w i → 80 * (k + 1) ≤ fu → mv_wp (mv_wpM mv_tab mv_sh d) mv_sh none tbX3_lentTo flX3 csX3 1 (fun _ _ _ _ _ => False) Q fu 6 [some (.inr (.inr 1)), some (.inl w), some (.inl a), some (.inl n), some (.inl m), some (.inl x)] [] I J := by
  subst eN
  intro k
  induction k with
  | zero =>
    intro fu i m x ex hi em hf
    obtain ⟨fu, rfl⟩ : ∃ z, fu = z + 80 := ⟨fu - 80, by omega⟩
    have ei : i = N := by omega
    subst ei ex
    refine And.intro (fun q => ?_) (fun q => absurd (Int32.le_refl _) q)
    exact h _ em
  | succ k ih =>
    intro fu i m x ex hi em hf
    obtain ⟨fu, rfl⟩ : ∃ z, fu = z + 80 := ⟨fu - 80, by omega⟩
    subst ex
    have cx : (nI i).toNatClampNeg = i := nI_clamp (by omega)
    have B : vp_in (nI i) 100 := vp_in_nI (by omega) (by decide)
    have LB := lz_b (k := I 15) (o := I 16) (t := I 17) (wk := I 19) (a := a) (w := w) hm i
    obtain ⟨s0, s1⟩ := hm i
    refine And.intro (fun q => absurd q (nI_ge (by omega) (by omega))) (fun q => ?_)
    refine And.intro B ?_
    refine And.intro (fun q1 => ?_) (fun q1 => ?_)
    · rw [cx] at q1
      refine And.intro ?_ trivial
      exact ih _ (i + 1) _ _ (nI_1 i) (by omega) (by rw [lz_n (fun z => q1 z.1)]; exact em) (by omega)
    · rw [cx] at q1
      refine And.intro B ?_
      refine And.intro (fun q2 => ?_) (fun q2 => ?_)
      · rw [cx] at q2
        have C : I 15 i = 0 ∧ I 19 i ≤ a := ⟨q1, q2⟩
        refine And.intro B ?_
        refine And.intro (fun q3 => ?_) (fun q3 => ?_)
        · rw [cx] at q3
          refine And.intro B ?_
          refine And.intro (fun q4 => ?_) (fun q4 => ?_)
          · rw [cx] at q4
            refine And.intro ?_ trivial
            exact ih _ (i + 1) _ _ (nI_1 i) (by omega) (by rw [lz_y C, if_neg q3, if_neg q4]; omega) (by omega)
          · rw [cx] at q4
            refine And.intro B ?_
            refine And.intro ?_ trivial
            exact ih _ (i + 1) _ _ (nI_1 i) (by omega) (by rw [lz_y C, if_neg q3, if_pos q4, cx, mi_sub (by omega) (by omega)]; omega) (by omega)
        · rw [cx] at q3
          refine And.intro B ?_
          have e5 : (m + I 18 i).toInt = m.toInt + (I 18 i).toInt := mi_add (by omega) (by omega)
          refine And.intro B ?_
          refine And.intro (fun q4 => ?_) (fun q4 => ?_)
          · rw [cx] at q4
            refine And.intro ?_ trivial
            exact ih _ (i + 1) _ _ (nI_1 i) (by omega) (by rw [lz_y C, if_pos q3, if_neg q4, cx, e5]; omega) (by omega)
          · rw [cx] at q4
            refine And.intro B ?_
            refine And.intro ?_ trivial
            exact ih _ (i + 1) _ _ (nI_1 i) (by omega) (by rw [lz_y C, if_pos q3, if_pos q4, cx, mi_sub (by rw [e5]; omega) (by rw [e5]; omega), e5]; omega) (by omega)
      · rw [cx] at q2
        refine And.intro ?_ trivial
        exact ih _ (i + 1) _ _ (nI_1 i) (by omega) (by rw [lz_n (fun z => q2 z.2)]; exact em) (by omega)
set_option maxHeartbeats 1000000 in
theorem e_lent {d : Nat} (hd : 1 ≤ d) (w a n : Int32) {I : mv_I} {J : mv_J} {Q : mv_Q} {N : Nat} (hN : N ≤ 100) (eN : n = nI N) (hm : ∀ j, rg (I 18 j) 0 100000) (h : ∀ r : Int32, r.toInt = lz (I 15) (I 16) (I 17) (I 18) (I 19) a w N → Q (some (.inl r)) I J) : mv_wpM mv_tab mv_sh d 29 [.inr (.inr 1), .inl w, .inl a, .inl n] I J Q := by
  obtain ⟨d, rfl⟩ : ∃ e, d = e + 1 := ⟨d - 1, by omega⟩
  refine (show ∃ fu9, mv_wp (mv_wpM mv_tab mv_sh d) mv_sh none tbX3_lentTo flX3 csX3 1 (fun _ _ _ _ _ => False) Q fu9 0 [some (.inr (.inr 1)), some (.inl w), some (.inl a), some (.inl n), none, none] [] I J from ?_)
  refine ⟨9000, ?_⟩
  refine And.intro ?_ trivial
  exact x_lent hN eN hm h N _ 0 _ _ nI_0.symm (by omega) (show (0 : Int32).toInt = (0 : Int) by decide) (Nat.le_trans (show 80 * (N + 1) ≤ 8080 by omega) (Nat.le_of_ble_eq_true rfl))
set_option maxHeartbeats 1000000 in
theorem x_psum {d : Nat} {I : mv_I} {J : mv_J} {Q : mv_Q} {W : Nat} {B : Nat → Bool} {p : Nat → Int} (hW : W ≤ 8) (eW : I 1 2 = nI W) (hB : ∀ z, z < W → (I 22 z = 0 ↔ B z = false)) (hp : ∀ z, z < W → (I 13 z).toInt = p z ∧ 1 ≤ p z ∧ p z ≤ 1000) (h : ∀ r : Int32, r.toInt = su B p W → Q (some (.inl r)) I J) : ∀ (k fu i : Nat) (m x : Int32), x = nI i → i + k = W → m.toInt = su B p i → 40 * (k + 1) ≤ fu → mv_wp (mv_wpM mv_tab mv_sh d) mv_sh none tbX3_partsAmong flX3 csX3 1 (fun _ _ _ _ _ => False) Q fu 4 [some (.inr (.inr 1)), some (.inl m), some (.inl x)] [] I J := by
  intro k
  induction k with
  | zero =>
    intro fu i m x ex hi em hf
    obtain ⟨fu, rfl⟩ : ∃ z, fu = z + 40 := ⟨fu - 40, by omega⟩
    have ei : i = W := by omega
    subst ei
    refine And.intro (fun q => ?_) (fun q => ?_)
    · exact h _ em
    · exact absurd (by rw [eW, ex]; exact Int32.le_refl _) q
  | succ k ih =>
    intro fu i m x ex hi em hf
    obtain ⟨fu, rfl⟩ : ∃ z, fu = z + 40 := ⟨fu - 40, by omega⟩
    subst ex
    have cx : (nI i).toNatClampNeg = i := nI_clamp (by omega)
    have Bx : vp_in (nI i) 8 := vp_in_nI (by omega) (by decide)
    obtain ⟨p0, p1, p2⟩ := hp i (by omega)
    have u0 := su_nn (b := B) (p := p) i (fun z hz => by have := (hp z (by omega)).2.1; omega)
    have u1 := su_le (b := B) (p := p) (M := 1000) (by omega) i (fun z hz => (hp z (by omega)).2.2)
    have es : su B p (i + 1) = su B p i + (bif B i then p i else 0) := rfl
    refine And.intro (fun q => ?_) (fun q => ?_)
    · rw [eW] at q
      exact absurd q (nI_ge (by omega) (by omega))
    · refine And.intro Bx ?_
      refine And.intro (fun q1 => ?_) (fun q1 => ?_)
      · rw [cx] at q1
        refine And.intro ?_ trivial
        exact ih _ (i + 1) _ _ (nI_1 i) (by omega) (by rw [es, (hB i (by omega)).mp q1, em]; show su B p i = su B p i + 0; omega) (by omega)
      · rw [cx] at q1
        have bt : B i = true := by
          cases hb : B i with
          | true => rfl
          | false => exact absurd ((hB i (by omega)).mpr hb) q1
        refine And.intro Bx ?_
        refine And.intro ?_ trivial
        exact ih _ (i + 1) _ _ (nI_1 i) (by omega) (by rw [es, bt, cx, mi_add (by omega) (by omega), em, p0]; rfl) (by omega)
set_option maxHeartbeats 1000000 in
theorem e_psum {d : Nat} (hd : 1 ≤ d) {I : mv_I} {J : mv_J} {Q : mv_Q} {W : Nat} {B : Nat → Bool} {p : Nat → Int} (hW : W ≤ 8) (eW : I 1 2 = nI W) (hB : ∀ z, z < W → (I 22 z = 0 ↔ B z = false)) (hp : ∀ z, z < W → (I 13 z).toInt = p z ∧ 1 ≤ p z ∧ p z ≤ 1000) (h : ∀ r : Int32, r.toInt = su B p W → Q (some (.inl r)) I J) : mv_wpM mv_tab mv_sh d 25 [.inr (.inr 1)] I J Q := by
  obtain ⟨d, rfl⟩ : ∃ e, d = e + 1 := ⟨d - 1, by omega⟩
  refine (show ∃ fu9, mv_wp (mv_wpM mv_tab mv_sh d) mv_sh none tbX3_partsAmong flX3 csX3 1 (fun _ _ _ _ _ => False) Q fu9 0 [some (.inr (.inr 1)), none, none] [] I J from ?_)
  refine ⟨500, ?_⟩
  refine And.intro ?_ trivial
  exact x_psum hW eW hB hp h W _ 0 _ _ nI_0.symm (by omega) (show (0 : Int32).toInt = (0 : Int) by decide) (Nat.le_trans (show 40 * (W + 1) ≤ 360 by omega) (Nat.le_of_ble_eq_true rfl))
theorem hf_gr {W m fu : Nat} (hW : W ≤ 8) (hf : 500 * (m + 1 + 1) ≤ fu + 60) : 40 * (W - 1 + 1) + 500 * (m + 1) ≤ fu := by
  have h1 : W - 1 + 1 ≤ 9 := by omega
  have h2 : 40 * (W - 1 + 1) ≤ 360 := Nat.mul_le_mul_left 40 h1
  rw [Nat.mul_succ 500 (m + 1)] at hf
  generalize 500 * (m + 1) = u at hf ⊢
  generalize 40 * (W - 1 + 1) = v at h2 ⊢
  omega
def bsr (f : Nat → Int32) (n g : Nat) : Prop := g < n ∧ (∀ z, z < n → (f z).toInt ≤ (f g).toInt) ∧ (∀ z, z < g → (f z).toInt < (f g).toInt)
set_option maxHeartbeats 1000000 in
theorem x_gr {d : Nat} {ov x : Int32} {J : mv_J} {Q : mv_Q} {F : Nat} {I : mv_I} {W : Nat} (hW : W ≤ 8) (eW : I 1 2 = nI W) (K : ∀ (fu g : Nat) (y z : Option mv_V) (I' : mv_I), mg_fr [20, 21] I I' → bsr (I 21) W g → I' 20 = upd (I 20) g (I 20 g + 1) → I' 21 = upd (I 21) g (-1) → F ≤ fu → mv_wp (mv_wpM mv_tab mv_sh d) mv_sh none tbX3_raiseGreatestRests flX3 csX3 0 (fun _ _ _ _ _ => False) Q fu 2 [some (.inr (.inr 1)), some (.inl ov), some (.inl (x + 1)), y, z] [] I' J) : ∀ (k fu i g : Nat) (y gg : Int32), y = nI i → gg = nI g → i + k = W → bsr (I 21) i g → 40 * (k + 1) + F ≤ fu → mv_wp (mv_wpM mv_tab mv_sh d) mv_sh none tbX3_raiseGreatestRests flX3 csX3 0 (fun _ _ _ _ _ => False) Q fu 12 [some (.inr (.inr 1)), some (.inl ov), some (.inl x), some (.inl gg), some (.inl y)] [] I J := by
  intro k
  induction k with
  | zero =>
    intro fu i g y gg ey eg hi hb hf
    obtain ⟨fu, rfl⟩ : ∃ z, fu = z + 40 := ⟨fu - 40, by omega⟩
    have ei : i = W := by omega
    subst ei ey eg
    have hg := hb.1
    have cg : (nI g).toNatClampNeg = g := nI_clamp (by omega)
    have Bg : vp_in (nI g) 8 := vp_in_nI (by omega) (by decide)
    refine And.intro (fun q => ?_) (fun q => ?_)
    · refine And.intro Bg ?_
      refine And.intro Bg ?_
      refine And.intro Bg ?_
      refine And.intro ?_ trivial
      refine K _ g _ _ _ (by repeat (first | exact mg_fr.rf | assumption | refine mg_fr.up ?_ rfl)) hb ?_ ?_ (by omega)
      · show upd (I 20) (nI g).toNatClampNeg (I 20 (nI g).toNatClampNeg + 1) = _
        rw [cg]
      · show upd (I 21) (nI g).toNatClampNeg (-1) = _
        rw [cg]
    · exact absurd (by rw [eW]; exact Int32.le_refl _) q
  | succ k ih =>
    intro fu i g y gg ey eg hi hb hf
    obtain ⟨fu, rfl⟩ : ∃ z, fu = z + 40 := ⟨fu - 40, by omega⟩
    subst ey eg
    obtain ⟨hg, h1, h2⟩ := id hb
    have cg : (nI g).toNatClampNeg = g := nI_clamp (by omega)
    have cy : (nI i).toNatClampNeg = i := nI_clamp (by omega)
    have Bg : vp_in (nI g) 8 := vp_in_nI (by omega) (by decide)
    have By : vp_in (nI i) 8 := vp_in_nI (by omega) (by decide)
    refine And.intro (fun q => ?_) (fun q => ?_)
    · rw [eW] at q
      exact absurd q (nI_ge (by omega) (by omega))
    · refine And.intro By ?_
      refine And.intro Bg ?_
      refine And.intro (fun q1 => ?_) (fun q1 => ?_)
      · rw [cg, cy, mi_le] at q1
        refine And.intro ?_ trivial
        refine ih _ (i + 1) g _ _ (nI_1 i) rfl (by omega) ⟨by omega, fun z hz => ?_, h2⟩ (by omega)
        by_cases e : z = i
        · rw [e]; exact q1
        · exact h1 z (by omega)
      · rw [cg, cy, mi_le] at q1
        refine And.intro ?_ trivial
        refine ih _ (i + 1) i _ _ (nI_1 i) rfl (by omega) ⟨by omega, fun z hz => ?_, fun z hz => ?_⟩ (by omega)
        · by_cases e : z = i
          · rw [e]; exact Int.le_refl _
          · have := h1 z (by omega); omega
        · have := h1 z hz; omega
set_option maxHeartbeats 1000000 in
theorem x_raise {d : Nat} {ov : Int32} {J : mv_J} {Q : mv_Q} {I0 : mv_I} {W : Nat} {r : Nat → Int} (hW : W ≤ 8) (eW : I0 1 2 = nI W) (hr : ∀ z, z < W → 0 ≤ r z) : ∀ (m fu : Nat) (x : Int32) (y z : Option mv_V) (I : mv_I) (f : Nat → Int) (E : Nat → Bool), mg_fr [20, 21] I0 I → 0 ≤ x.toInt → ov.toInt = x.toInt + m → (∀ z, z < W → (I 21 z).toInt = if E z = true then r z else -1) → (∀ z, z < W → (I 20 z).toInt = f z ∧ 0 ≤ f z ∧ f z + m ≤ 1000000000) → m ≤ ct E W → 500 * (m + 1) ≤ fu → (∀ (I' : mv_I) (g : Nat → Int), mg_fr [20, 21] I0 I' → RZ r W m f E g → (∀ z, z < W → (I' 20 z).toInt = g z) → Q none I' J) → mv_wp (mv_wpM mv_tab mv_sh d) mv_sh none tbX3_raiseGreatestRests flX3 csX3 0 (fun _ _ _ _ _ => False) Q fu 2 [some (.inr (.inr 1)), some (.inl ov), some (.inl x), y, z] [] I J := by
  intro m
  induction m with
  | zero =>
    intro fu x y z I f E f0 h0 eo h21 h20 hm hf h
    obtain ⟨fu, rfl⟩ : ∃ z, fu = z + 60 := ⟨fu - 60, by omega⟩
    refine And.intro (fun q => ?_) (fun q => ?_)
    · exact h _ f f0 (fun z hz => rfl) (fun z hz => (h20 z hz).1)
    · rw [mi_le] at q
      omega
  | succ m ih =>
    intro fu x y z I f E f0 h0 eo h21 h20 hm hf h
    obtain ⟨fu, rfl⟩ : ∃ z, fu = z + 60 := ⟨fu - 60, by omega⟩
    have HF2 : 40 * (W - 1 + 1) + 500 * (m + 1) ≤ fu := hf_gr hW hf
    have ew : I 1 2 = nI W := (congrFun (f0 1 rfl) 2).trans eW
    have hx := ct_ex (P := E) W (by omega)
    have ovm := mi_max ov
    have e1 : (x + 1).toInt = x.toInt + 1 := mi_inc (n := ov.toInt) (by omega) ovm
    refine And.intro (fun q => ?_) (fun q => ?_)
    · rw [mi_le] at q
      omega
    · obtain ⟨zz, z1, z2⟩ := hx
      refine And.intro ?_ trivial
      have hW1 : 1 ≤ W := by omega
      have HB : bsr (I 21) 1 0 := ⟨by omega, fun z hz => by rw [show z = 0 by omega]; exact Int.le_refl _, fun z hz => absurd hz (by omega)⟩
      refine x_gr (F := 500 * (m + 1)) hW ew (fun fu2 g y2 z3 I2 f2 hb e20 e21 hf2 => ?_) (W - 1) _ 1 0 _ _ (show (1 : Int32) = nI 1 by decide +kernel) nI_0.symm (by omega) HB (Nat.le_trans HF2 (Nat.le_add_right fu _))
      obtain ⟨hg, hb1, hb2⟩ := hb
      have Eg : E g = true := by
        cases he : E g with
        | true => rfl
        | false =>
          exfalso
          have a1 := hb1 zz z1
          rw [h21 zz z1, h21 g hg, he, if_pos z2, if_neg (by decide)] at a1
          have := hr zz z1
          omega
      have IB : isb E r W g := ⟨hg, Eg, fun z hz he => by
        have a1 := hb1 z hz
        rw [h21 z hz, h21 g hg, if_pos he, if_pos Eg] at a1
        exact a1, fun z hz he => by
        have a1 := hb2 z hz
        rw [h21 z (by omega), h21 g hg, if_pos he, if_pos Eg] at a1
        exact a1⟩
      obtain ⟨s1, s2, s3⟩ := h20 g hg
      have oc := off_ct Eg hg
      refine ih _ _ _ _ I2 (up1 f g (f g + 1)) (off E g) (f0.tr f2) (by omega) (by omega) (fun z hz => ?_) (fun z hz => ?_) (by omega) (by omega) (fun I' gg fr rz eg => h I' gg fr ⟨g, IB, rz⟩ eg)
      · rw [e21]
        unfold upd off
        by_cases e : z = g
        · rw [if_pos e, if_pos e, if_neg (by decide)]
          decide
        · rw [if_neg e, if_neg e]; exact h21 z hz
      · rw [e20]
        unfold upd up1
        by_cases e : z = g
        · rw [if_pos e, if_pos e]
          have e9 : (I 20 g + 1).toInt = (I 20 g).toInt + 1 := mi_inc (n := 2000000000) (by omega) (by omega)
          exact ⟨by omega, by omega, by omega⟩
        · rw [if_neg e, if_neg e]
          have := h20 z hz
          exact ⟨this.1, this.2.1, by omega⟩
set_option maxHeartbeats 1000000 in
theorem e_raise {d : Nat} (hd : 1 ≤ d) (ov : Int32) {I : mv_I} {J : mv_J} {Q : mv_Q} {W m : Nat} {r f : Nat → Int} {E : Nat → Bool} (hW : W ≤ 8) (eW : I 1 2 = nI W) (hr : ∀ z, z < W → 0 ≤ r z) (eo : ov.toInt = m) (h21 : ∀ z, z < W → (I 21 z).toInt = if E z = true then r z else -1) (h20 : ∀ z, z < W → (I 20 z).toInt = f z ∧ 0 ≤ f z ∧ f z + m ≤ 1000000000) (hm : m ≤ ct E W) (h : ∀ (I' : mv_I) (g : Nat → Int), mg_fr [20, 21] I I' → RZ r W m f E g → (∀ z, z < W → (I' 20 z).toInt = g z) → Q none I' J) : mv_wpM mv_tab mv_sh d 26 [.inr (.inr 1), .inl ov] I J Q := by
  obtain ⟨d, rfl⟩ : ∃ e, d = e + 1 := ⟨d - 1, by omega⟩
  refine (show ∃ fu9, mv_wp (mv_wpM mv_tab mv_sh d) mv_sh none tbX3_raiseGreatestRests flX3 csX3 0 (fun _ _ _ _ _ => False) Q fu9 0 [some (.inr (.inr 1)), some (.inl ov), none, none, none] [] I J from ?_)
  refine ⟨(500 * (m + 1) + 2), ?_⟩
  refine And.intro ?_ trivial
  exact x_raise hW eW hr m _ _ _ _ _ f E mg_fr.rf (by decide) (by have : (0 : Int32).toInt = 0 := (by decide); omega) h21 h20 hm (Nat.le_refl _) h
theorem mi_rem {a b : Int32} (ha : 0 ≤ a.toInt) (hb : 0 < b.toInt) : (a - a / b * b).toInt = a.toInt % b.toInt := by
  have hm := mi_max a
  have e1 := mi_div ha hb
  have e3 : a.toInt % b.toInt + b.toInt * (a.toInt / b.toInt) = a.toInt := Int.emod_add_mul_ediv a.toInt b.toInt
  have e4 := Int.emod_nonneg a.toInt (show b.toInt ≠ 0 by omega)
  have e5 : 0 ≤ a.toInt / b.toInt := Int.ediv_nonneg ha (by omega)
  have e6 : 0 ≤ b.toInt * (a.toInt / b.toInt) := Int.mul_nonneg (by omega) e5
  have e7 : (a / b * b).toInt = b.toInt * (a.toInt / b.toInt) := by
    rw [mi_mul (by rw [e1, Int.mul_comm]; omega) (by rw [e1, Int.mul_comm]; omega), e1, Int.mul_comm]
  rw [mi_sub (by rw [e7]; omega) (by rw [e7]; omega), e7]
  omega
set_option maxHeartbeats 1000000 in
theorem x_cut {d : Nat} (hd : 1 ≤ d) {n pp : Int32} {J : mv_J} {Q : mv_Q} {I0 : mv_I} {W : Nat} {B : Nat → Bool} {p f : Nat → Int} (hW : W ≤ 8) (eW : I0 1 2 = nI W) (hB : ∀ z, z < W → (I0 22 z = 0 ↔ B z = false)) (hp : ∀ z, z < W → (I0 13 z).toInt = p z ∧ 1 ≤ p z ∧ p z ≤ 1000) (hN : 0 ≤ n.toInt ∧ n.toInt ≤ 1000001) (hf : ∀ z, z < W → (I0 20 z).toInt = f z ∧ 0 ≤ f z ∧ f z ≤ 100000000) (eA : pp.toInt = su B p W) (nA : 0 < su B p W) (h : ∀ (I' : mv_I) (g : Nat → Int), mg_fr [20, 21] I0 I' → PTR n.toInt B p W f g → (∀ z, z < W → (I' 20 z).toInt = g z) → Q none I' J) : ∀ (k fu i : Nat) (ov x : Int32) (c : Option mv_V) (I : mv_I), x = nI i → i + k = W → mg_fr [20, 21] I0 I → (∀ z, z < i → (I 21 z).toInt = if B z = true then n.toInt * p z % su B p W else -1) → (∀ z, z < W → (I 20 z).toInt = f z + (if z < i ∧ B z = true then n.toInt * p z / su B p W else 0)) → ov.toInt = n.toInt - su B (fun z => n.toInt * p z / su B p W) i → su B p W * (n.toInt - ov.toInt) ≤ n.toInt * su B p i → n.toInt * su B p i - su B p W * (n.toInt - ov.toInt) ≤ (su B p W - 1) * (ct B i : Int) → 100 * (k + 1) ≤ fu → mv_wp (mv_wpM mv_tab mv_sh d) mv_sh none tbX3_partAmong flX3 csX3 0 (fun _ _ _ _ _ => False) Q fu 15 [some (.inr (.inr 1)), some (.inl n), some (.inl pp), some (.inl ov), some (.inl x), c] [] I J := by
  have hp0 : ∀ z, z < W → 0 ≤ p z := fun z hz => by have := (hp z hz).2.1; omega
  obtain ⟨N0, N1⟩ := hN
  intro k
  induction k with
  | zero =>
    intro fu i ov x c I ex hi f0 h21 h20 eo d1 d2 hfu
    obtain ⟨fu, rfl⟩ : ∃ z, fu = z + 100 := ⟨fu - 100, by omega⟩
    have ei : i = W := by omega
    subst ei
    have ew : I 1 2 = nI i := (congrFun (f0 1 rfl) 2).trans eW
    refine And.intro (fun q => ?_) (fun q => ?_)
    · have l0 := sh_nn nA N0 (Int.le_refl _) d1
      have l1 := sh_end nA d2 (Int.natCast_nonneg _)
      have cl := ct_le (P := B) i
      refine e_raise (m := ov.toInt.toNat) (r := fun z => n.toInt * p z % su B p i) (f := fun z => f z + (if B z = true then n.toInt * p z / su B p i else 0)) (E := B) (by omega) ov hW ew (fun z hz => Int.emod_nonneg _ (by omega)) (by omega) (fun z hz => h21 z hz) (fun z hz => ?_) (by omega) (fun I' g fr rz e => h I' g (f0.tr fr) (Or.inr ⟨by omega, by rw [← eo]; exact rz⟩) e)
      have e := h20 z hz
      have hz2 := hf z hz
      have eq : (if z < i ∧ B z = true then n.toInt * p z / su B p i else 0) = (if B z = true then n.toInt * p z / su B p i else 0) := by
        by_cases hb : B z = true
        · rw [if_pos hb, if_pos ⟨hz, hb⟩]
        · rw [if_neg hb, if_neg (fun q => hb q.2)]
      rw [eq] at e
      have bd : 0 ≤ (if B z = true then n.toInt * p z / su B p i else 0) ∧ (if B z = true then n.toInt * p z / su B p i else 0) ≤ n.toInt := by
        by_cases hb : B z = true
        · rw [if_pos hb]
          have k1 := su_ge (b := B) i hp0 z hz hb
          have e7 : n.toInt * p z ≤ n.toInt * su B p i := Int.mul_le_mul_of_nonneg_left k1 N0
          have e8 := Int.ediv_le_ediv nA e7
          rw [Int.mul_ediv_cancel n.toInt (by omega)] at e8
          exact ⟨Int.ediv_nonneg (Int.mul_nonneg N0 (hp0 z hz)) (by omega), e8⟩
        · rw [if_neg hb]; exact ⟨by omega, N0⟩
      exact ⟨e, by omega, by omega⟩
    · exact absurd (by rw [ew, ex]; exact Int32.le_refl _) q
  | succ k ih =>
    intro fu i ov x c I ex hi f0 h21 h20 eo d1 d2 hfu
    obtain ⟨fu, rfl⟩ : ∃ z, fu = z + 100 := ⟨fu - 100, by omega⟩
    subst ex
    have ew : I 1 2 = nI W := (congrFun (f0 1 rfl) 2).trans eW
    have e13 : I 13 = I0 13 := f0 13 rfl
    have e22 : I 22 = I0 22 := f0 22 rfl
    have cx : (nI i).toNatClampNeg = i := nI_clamp (by omega)
    have Bx : vp_in (nI i) 8 := vp_in_nI (by omega) (by decide)
    obtain ⟨p0, p1, p2⟩ := hp i (by omega)
    have nz : ¬ pp = 0 := fun z => by rw [z] at eA; have : (0 : Int32).toInt = 0 := (by decide); omega
    have es : su B p (i + 1) = su B p i + (bif B i then p i else 0) := rfl
    have ec : ct B (i + 1) = ct B i + (bif B i then 1 else 0) := rfl
    have ez : su B (fun z => n.toInt * p z / su B p W) (i + 1) = su B (fun z => n.toInt * p z / su B p W) i + (bif B i then n.toInt * p i / su B p W else 0) := rfl
    refine And.intro (fun q => ?_) (fun q => ?_)
    · rw [ew] at q
      exact absurd q (nI_ge (by omega) (by omega))
    · refine And.intro Bx ?_
      refine And.intro Bx ?_
      refine And.intro (fun q1 => ?_) (fun q1 => ?_)
      · have q1 : I 22 (nI i).toNatClampNeg = 0 := q1
        rw [cx, e22] at q1
        have bf := (hB i (by omega)).mp q1
        rw [bf] at es ec ez
        have es : su B p (i + 1) = su B p i + 0 := es
        have ec : ct B (i + 1) = ct B i := ec
        have ez : su B (fun z => n.toInt * p z / su B p W) (i + 1) = su B (fun z => n.toInt * p z / su B p W) i + 0 := ez
        rw [Int.add_zero] at es ez
        refine And.intro ?_ trivial
        refine ih _ (i + 1) _ _ _ _ (nI_1 i) (by omega) (mg_fr.up f0 rfl) (fun z hz => ?_) (fun z hz => ?_) (by rw [ez]; exact eo) (by rw [es]; exact d1) (by rw [es, ec]; exact d2) (by omega)
        · show (upd (I 21) (nI i).toNatClampNeg (-1) z).toInt = _
          rw [cx]
          unfold upd
          by_cases e : z = i
          · rw [if_pos e, e, bf, if_neg (by decide)]
            decide
          · rw [if_neg e]; exact h21 z (by omega)
        · have e := h20 z hz
          show (I 20 z).toInt = _
          rw [e]
          by_cases g : z < i ∧ B z = true
          · rw [if_pos g, if_pos ⟨by omega, g.2⟩]
          · rw [if_neg g, if_neg (fun q => by
              by_cases e : z = i
              · have := q.2; rw [e, bf] at this; cases this
              · exact g ⟨by omega, q.2⟩)]
      · have q1 : ¬ I 22 (nI i).toNatClampNeg = 0 := q1
        rw [cx, e22] at q1
        have bt : B i = true := by
          cases hb : B i with
          | true => rfl
          | false => exact absurd ((hB i (by omega)).mpr hb) q1
        rw [bt] at es ec ez
        have es : su B p (i + 1) = su B p i + p i := es
        have ec : ct B (i + 1) = ct B i + 1 := ec
        have ez : su B (fun z => n.toInt * p z / su B p W) (i + 1) = su B (fun z => n.toInt * p z / su B p W) i + n.toInt * p i / su B p W := ez
        have k1 := su_ge (b := B) W hp0 i (by omega) bt
        have np0 : 0 ≤ n.toInt * p i := Int.mul_nonneg N0 (by omega)
        have np1 : n.toInt * p i ≤ 1000001 * 1000 := Int.mul_le_mul N1 p2 (by omega) (by omega)
        obtain ⟨pv, hpv⟩ : ∃ v, v = I0 13 i := ⟨_, rfl⟩
        rw [← hpv] at p0
        have em : (n * pv).toInt = n.toInt * p i := by rw [mi_mul (by rw [p0]; omega) (by rw [p0]; omega), p0]
        have eq : (n * pv / pp).toInt = n.toInt * p i / su B p W := by rw [mi_div (by rw [em]; exact np0) (by rw [eA]; exact nA), em, eA]
        have er : (n * pv - n * pv / pp * pp).toInt = n.toInt * p i % su B p W := by rw [mi_rem (by rw [em]; exact np0) (by rw [eA]; exact nA), em, eA]
        obtain ⟨s1, s2, s3, s4⟩ := sh_step nA N0 (hp0 i (by omega)) k1 eq d1 d2
        have l0 := sh_nn nA N0 (su_mono (b := B) W (show i ≤ W by omega) hp0) d1
        have lN : ov.toInt ≤ n.toInt := by
          have z := su_nn (b := B) (p := fun z => n.toInt * p z / su B p W) i (fun z hz => Int.ediv_nonneg (Int.mul_nonneg N0 (hp0 z (by omega))) (by omega))
          omega
        have el : (ov - n * pv / pp).toInt = ov.toInt - (n * pv / pp).toInt := mi_sub (by omega) (by omega)
        have eE : su B p W * (n.toInt - (ov - n * pv / pp).toInt) = su B p W * (n.toInt - ov.toInt) + su B p W * (n * pv / pp).toInt := by rw [el, ← Int.mul_add]; congr 1; omega
        have Gd1 : su B p W * (n.toInt - (ov - n * pv / pp).toInt) ≤ n.toInt * su B p (i + 1) := by rw [eE, es]; exact s3
        have Gd2 : n.toInt * su B p (i + 1) - su B p W * (n.toInt - (ov - n * pv / pp).toInt) ≤ (su B p W - 1) * (ct B (i + 1) : Int) := by rw [eE, es, ec]; exact s4
        have Go : (ov - n * pv / pp).toInt = n.toInt - su B (fun z => n.toInt * p z / su B p W) (i + 1) := by rw [el, ez, eo, eq]; omega
        have hfi := hf i (by omega)
        have e20i := h20 i (by omega)
        rw [if_neg (fun q => absurd q.1 (by omega)), Int.add_zero] at e20i
        have G21 : ∀ z, z < i + 1 → (upd (upd (I 21) i (-1)) i (n * pv - n * pv / pp * pp) z).toInt = if B z = true then n.toInt * p z % su B p W else -1 := by
          intro z hz
          unfold upd
          by_cases e : z = i
          · rw [if_pos e, e, if_pos bt]; exact er
          · rw [if_neg e, if_neg e]; exact h21 z (by omega)
        have G20 : ∀ z, z < W → (upd (I 20) i (I 20 i + n * pv / pp) z).toInt = f z + (if z < i + 1 ∧ B z = true then n.toInt * p z / su B p W else 0) := by
          intro z hz
          unfold upd
          by_cases e : z = i
          · rw [if_pos e, e, if_pos ⟨by omega, bt⟩, mi_add (by omega) (by omega), eq, e20i, hfi.1.symm.trans hfi.1]
          · rw [if_neg e, h20 z hz]
            by_cases g : z < i ∧ B z = true
            · rw [if_pos g, if_pos ⟨by omega, g.2⟩]
            · rw [if_neg g, if_neg (fun q => g ⟨by omega, q.2⟩)]
        have E13 : I 13 (nI i).toNatClampNeg = pv := by rw [cx, e13, hpv]
        refine And.intro Bx ?_
        refine And.intro nz ?_
        refine And.intro Bx ?_
        refine And.intro nz ?_
        refine And.intro Bx ?_
        refine And.intro Bx ?_
        refine And.intro Bx ?_
        refine And.intro ?_ trivial
        refine ih _ (i + 1) _ _ _ _ (nI_1 i) (by omega) (by repeat (first | exact mg_fr.rf | assumption | refine mg_fr.up ?_ rfl)) (fun z hz => ?_) (fun z hz => ?_) ?_ ?_ ?_ (by clear Gd1 Gd2 s3 s4 eE; omega)
        · have e := G21 z hz
          rw [← E13] at e
          show (upd (upd (I 21) (nI i).toNatClampNeg (-1)) (nI i).toNatClampNeg (n * I 13 (nI i).toNatClampNeg - n * I 13 (nI i).toNatClampNeg / pp * pp) z).toInt = _
          rw [cx] at e ⊢
          exact e
        · have e := G20 z hz
          rw [← E13] at e
          show (upd (I 20) (nI i).toNatClampNeg (I 20 (nI i).toNatClampNeg + n * I 13 (nI i).toNatClampNeg / pp) z).toInt = _
          rw [cx] at e ⊢
          exact e
        · rw [← E13] at Go; exact Go
        · rw [← E13] at Gd1; exact Gd1
        · rw [← E13] at Gd2; exact Gd2
set_option maxHeartbeats 1000000 in
theorem e_part {d : Nat} (hd : 2 ≤ d) (n : Int32) {I : mv_I} {J : mv_J} {Q : mv_Q} {W : Nat} {B : Nat → Bool} {p f : Nat → Int} (hW : W ≤ 8) (eW : I 1 2 = nI W) (hB : ∀ z, z < W → (I 22 z = 0 ↔ B z = false)) (hp : ∀ z, z < W → (I 13 z).toInt = p z ∧ 1 ≤ p z ∧ p z ≤ 1000) (hN : 0 ≤ n.toInt ∧ n.toInt ≤ 1000001) (hf : ∀ z, z < W → (I 20 z).toInt = f z ∧ 0 ≤ f z ∧ f z ≤ 100000000) (h : ∀ (I' : mv_I) (g : Nat → Int), mg_fr [20, 21] I I' → PTR n.toInt B p W f g → (∀ z, z < W → (I' 20 z).toInt = g z) → Q none I' J) : mv_wpM mv_tab mv_sh d 27 [.inr (.inr 1), .inl n] I J Q := by
  obtain ⟨d, rfl⟩ : ∃ e, d = e + 1 := ⟨d - 1, by omega⟩
  refine (show ∃ fu9, mv_wp (mv_wpM mv_tab mv_sh d) mv_sh none tbX3_partAmong flX3 csX3 0 (fun _ _ _ _ _ => False) Q fu9 0 [some (.inr (.inr 1)), some (.inl n), none, none, none, none] [] I J from ?_)
  refine ⟨1200, ?_⟩
  have c0 : (0 : Int32).toInt = 0 := by decide
  have u0 := su_nn (b := B) (p := p) W (fun z hz => by have := (hp z hz).2.1; omega)
  refine e_psum (by omega) hW eW hB hp (fun pp ep => ?_)
  refine And.intro (fun q => ?_) (fun q => ?_)
  · rw [mi_lt, c0, ep] at q
    refine And.intro ?_ trivial
    exact x_cut (by omega) (I0 := I) hW eW hB hp hN hf ep q h W _ 0 _ _ _ _ nI_0.symm (by omega) mg_fr.rf (fun z hz => absurd hz (by omega)) (fun z hz => by rw [if_neg (fun q => absurd q.1 (by omega)), Int.add_zero]; exact (hf z hz).1) (by show n.toInt = n.toInt - 0; omega) (by rw [Int.sub_self, Int.mul_zero]; show (0 : Int) ≤ n.toInt * 0; omega) (by rw [Int.sub_self, Int.mul_zero]; show n.toInt * 0 - 0 ≤ (su B p W - 1) * ((0 : Nat) : Int); omega) (Nat.le_trans (show 100 * (W + 1) ≤ 900 by omega) (Nat.le_of_ble_eq_true rfl))
  · rw [mi_lt, c0, ep] at q
    exact h _ f mg_fr.rf (Or.inl ⟨by omega, fun z hz => rfl⟩) (fun z hz => (hf z hz).1)
theorem nar_b1 : vp_nar .boolean 1 = 1 := by decide
theorem nar_b0 : vp_nar .boolean 0 = 0 := by decide
set_option maxHeartbeats 1000000 in
theorem x_qu3 {d : Nat} (hd : 3 ≤ d) {w a n : Int32} {J : mv_J} {Q : mv_Q} {I0 : mv_I} {W N v : Nat} {p : Nat → Int} (hW : W ≤ 8) (eW : I0 1 2 = nI W) (hp : ∀ z, z < W → (I0 13 z).toInt = p z ∧ 1 ≤ p z ∧ p z ≤ 1000) (hN : N ≤ 100) (eN : n = nI N) (hm : ∀ j, rg (I0 18 j) 0 100000) (hT : rg (I0 1 3) 0 1000000) (hv : v < W) (ev : w = nI v) (h : ∀ (r : Int32) (I' : mv_I) (g : Nat → Int), mg_fr [20, 21, 22] I0 I' → QU (I0 1 3).toInt (fun z => (ofs (I0 15) (I0 16) (I0 19) a (nI z) N).1) p W g → r.toInt = g v + lz (I0 15) (I0 16) (I0 17) (I0 18) (I0 19) a w N → Q (some (.inl r)) I' J) (f1 : Nat → Int) (hf1 : PTR (I0 1 3).toInt (fun _ => true) p W (fun _ => 0) f1) : ∀ (k fu i : Nat) (x : Int32) (I : mv_I) (g : Nat → Int), x = nI i → i + k = W → mg_fr [20, 21, 22] I0 I → (∀ z, z < W → (I 22 z = 0 ↔ (fun z => (ofs (I0 15) (I0 16) (I0 19) a (nI z) N).1) z = false)) → QL (fun z => (ofs (I0 15) (I0 16) (I0 19) a (nI z) N).1) p W i f1 g → (∀ z, z < W → (I 20 z).toInt = g z) → 60 * (k + 1) ≤ fu → mv_wp (mv_wpM mv_tab mv_sh d) mv_sh none tbX3_quotaOf flX3 csX3 1 (fun _ _ _ _ _ => False) Q fu 78 [some (.inr (.inr 1)), some (.inl w), some (.inl a), some (.inl n), some (.inl x)] [] I J := by
  have hp0 : ∀ z, z < W → 0 ≤ p z := fun z hz => by have := (hp z hz).2.1; omega
  obtain ⟨T0, T1⟩ := id hT
  have B1 : ∀ z, z < W → 0 ≤ f1 z ∧ f1 z ≤ 1000001 := fun z hz => by have := PTR_b T0 hp0 hf1 z hz; exact ⟨by omega, by omega⟩
  intro k
  induction k with
  | zero =>
    intro fu i x I g ex hi f0 h22 ql h20 hf
    obtain ⟨fu, rfl⟩ : ∃ z, fu = z + 60 := ⟨fu - 60, by omega⟩
    have ei : i = W := by omega
    subst ei
    have ew : I 1 2 = nI i := (congrFun (f0 1 rfl) 2).trans eW
    have e15 : I 15 = I0 15 := f0 15 rfl
    have e16 : I 16 = I0 16 := f0 16 rfl
    have e17 : I 17 = I0 17 := f0 17 rfl
    have e18 : I 18 = I0 18 := f0 18 rfl
    have e19 : I 19 = I0 19 := f0 19 rfl
    have cv : (nI v).toNatClampNeg = v := nI_clamp (by omega)
    refine And.intro (fun q => ?_) (fun q => ?_)
    · refine And.intro (by rw [ev]; exact vp_in_nI (by omega) (by decide)) ?_
      refine e_lent (by omega) w a n hN eN (by rw [e18]; exact hm) (fun r er => ?_)
      rw [e15, e16, e17, e18, e19] at er
      have lb := lz_b (k := I0 15) (o := I0 16) (t := I0 17) (wk := I0 19) (a := a) (w := w) hm N
      have qb := QL_b hp0 i f1 g (Nat.le_refl _) B1 ql v hv
      have es : (I 20 w.toNatClampNeg).toInt = g v := by rw [ev, cv]; exact h20 v hv
      refine h _ _ g f0 ⟨f1, hf1, ql⟩ ?_
      rw [mi_add (by omega) (by omega), es, er]
    · exact absurd (by rw [ew, ex]; exact Int32.le_refl _) q
  | succ k ih =>
    intro fu i x I g ex hi f0 h22 ql h20 hf
    obtain ⟨fu, rfl⟩ : ∃ z, fu = z + 60 := ⟨fu - 60, by omega⟩
    subst ex
    have ew : I 1 2 = nI W := (congrFun (f0 1 rfl) 2).trans eW
    have e13 : I 13 = I0 13 := f0 13 rfl
    have cx : (nI i).toNatClampNeg = i := nI_clamp (by omega)
    have Bx : vp_in (nI i) 8 := vp_in_nI (by omega) (by decide)
    have QB := QL_b hp0 i f1 g (by omega) B1 ql
    refine And.intro (fun q => ?_) (fun q => ?_)
    · rw [ew] at q
      exact absurd q (nI_ge (by omega) (by omega))
    · refine And.intro Bx ?_
      refine And.intro (fun q1 => ?_) (fun q1 => ?_)
      · rw [cx] at q1
        have bt : (fun z => (ofs (I0 15) (I0 16) (I0 19) a (nI z) N).1) i = true := by
          cases hb : (fun z => (ofs (I0 15) (I0 16) (I0 19) a (nI z) N).1) i with
          | true => rfl
          | false => exact absurd ((h22 i (by omega)).mpr hb) q1
        refine And.intro ?_ trivial
        exact ih _ (i + 1) _ _ g (nI_1 i) (by omega) f0 h22 ⟨g, ql, Or.inl ⟨bt, fun _ _ => rfl⟩⟩ h20 (by omega)
      · rw [cx] at q1
        have bf := (h22 i (by omega)).mp q1
        refine And.intro Bx ?_
        have ei : (I 20 (nI i).toNatClampNeg).toInt = g i := by rw [cx]; exact h20 i (by omega)
        have q0 := QB i (by omega)
        have q2 := q0.2.2 bf (Nat.le_refl i)
        have q3 := B1 i (by omega)
        refine e_part (f := g) (by omega) _ hW ew h22 (by rw [e13]; exact hp) (by rw [ei]; exact ⟨by omega, by omega⟩) (fun z hz => ⟨h20 z hz, (QB z hz).1, by have := (QB z hz).2.1; omega⟩) (fun I2 g2 f2 pt e2 => ?_)
        rw [ei] at pt
        refine And.intro Bx ?_
        refine And.intro ?_ trivial
        refine ih _ (i + 1) _ _ (up1 g2 i 0) (nI_1 i) (by omega) (mg_fr.up (f0.tr (f2.mono rfl)) rfl) (fun z hz => ?_) ⟨g, ql, Or.inr ⟨bf, PTR_set bf pt⟩⟩ (fun z hz => ?_) (by omega)
        · show I2 22 z = 0 ↔ _
          rw [f2 22 rfl]
          exact h22 z hz
        · show (upd (I2 20) (nI i).toNatClampNeg 0 z).toInt = _
          rw [cx]
          unfold upd up1
          by_cases e : z = i
          · rw [if_pos e, if_pos e]; decide
          · rw [if_neg e, if_neg e]; exact e2 z hz
set_option maxHeartbeats 1000000 in
theorem x_qu2 {d : Nat} (hd : 3 ≤ d) {w a n : Int32} {J : mv_J} {Q : mv_Q} {I0 : mv_I} {W N v : Nat} {p : Nat → Int} (hW : W ≤ 8) (eW : I0 1 2 = nI W) (hp : ∀ z, z < W → (I0 13 z).toInt = p z ∧ 1 ≤ p z ∧ p z ≤ 1000) (hN : N ≤ 100) (eN : n = nI N) (hm : ∀ j, rg (I0 18 j) 0 100000) (hT : rg (I0 1 3) 0 1000000) (hv : v < W) (ev : w = nI v) (h : ∀ (r : Int32) (I' : mv_I) (g : Nat → Int), mg_fr [20, 21, 22] I0 I' → QU (I0 1 3).toInt (fun z => (ofs (I0 15) (I0 16) (I0 19) a (nI z) N).1) p W g → r.toInt = g v + lz (I0 15) (I0 16) (I0 17) (I0 18) (I0 19) a w N → Q (some (.inl r)) I' J) (f1 : Nat → Int) (hf1 : PTR (I0 1 3).toInt (fun _ => true) p W (fun _ => 0) f1) : ∀ (k fu i : Nat) (x : Int32) (I : mv_I), x = nI i → i + k = W → mg_fr [20, 21, 22] I0 I → (∀ z, z < i → (I 22 z = 0 ↔ (fun z => (ofs (I0 15) (I0 16) (I0 19) a (nI z) N).1) z = false)) → (∀ z, z < W → (I 20 z).toInt = f1 z) → 60 * (k + 1) + 600 ≤ fu → mv_wp (mv_wpM mv_tab mv_sh d) mv_sh none tbX3_quotaOf flX3 csX3 1 (fun _ _ _ _ _ => False) Q fu 45 [some (.inr (.inr 1)), some (.inl w), some (.inl a), some (.inl n), some (.inl x)] [] I J := by
  intro k
  induction k with
  | zero =>
    intro fu i x I ex hi f0 h22 h20 hf
    obtain ⟨fu, rfl⟩ : ∃ z, fu = z + 60 := ⟨fu - 60, by omega⟩
    have ei : i = W := by omega
    subst ei
    have ew : I 1 2 = nI i := (congrFun (f0 1 rfl) 2).trans eW
    refine And.intro (fun q => ?_) (fun q => ?_)
    · refine And.intro ?_ trivial
      exact x_qu3 hd hW eW hp hN eN hm hT hv ev h f1 hf1 i _ 0 _ _ f1 nI_0.symm (by omega) f0 h22 (fun _ _ => rfl) h20 (by omega)
    · exact absurd (by rw [ew, ex]; exact Int32.le_refl _) q
  | succ k ih =>
    intro fu i x I ex hi f0 h22 h20 hf
    obtain ⟨fu, rfl⟩ : ∃ z, fu = z + 60 := ⟨fu - 60, by omega⟩
    subst ex
    have ew : I 1 2 = nI W := (congrFun (f0 1 rfl) 2).trans eW
    have cx : (nI i).toNatClampNeg = i := nI_clamp (by omega)
    have Bx : vp_in (nI i) 8 := vp_in_nI (by omega) (by decide)
    refine And.intro (fun q => ?_) (fun q => ?_)
    · rw [ew] at q
      exact absurd q (nI_ge (by omega) (by omega))
    · refine e_open (by omega) _ _ _ hN eN ?_
      rw [f0 15 rfl, f0 16 rfl, f0 19 rfl]
      refine And.intro Bx ?_
      refine And.intro ?_ trivial
      refine ih _ (i + 1) _ _ (nI_1 i) (by omega) (mg_fr.up f0 rfl) (fun z hz => ?_) h20 (by omega)
      show upd (I 22) (nI i).toNatClampNeg (vp_nar .boolean (if (ofs (I0 15) (I0 16) (I0 19) a (nI i) N).1 = true then 1 else 0)) z = 0 ↔ _
      rw [cx]
      unfold upd
      by_cases e : z = i
      · rw [if_pos e, e]
        show vp_nar .boolean (if (ofs (I0 15) (I0 16) (I0 19) a (nI i) N).1 = true then 1 else 0) = 0 ↔ (ofs (I0 15) (I0 16) (I0 19) a (nI i) N).1 = false
        cases (ofs (I0 15) (I0 16) (I0 19) a (nI i) N).1 with
        | true => rw [if_pos rfl, nar_b1]; exact ⟨fun q => absurd q (by decide), fun q => by cases q⟩
        | false => rw [if_neg (by decide), nar_b0]; exact ⟨fun _ => rfl, fun _ => rfl⟩
      · rw [if_neg e]; exact h22 z (by omega)
set_option maxHeartbeats 1000000 in
theorem x_qu1 {d : Nat} (hd : 3 ≤ d) {w a n : Int32} {J : mv_J} {Q : mv_Q} {I0 : mv_I} {W N v : Nat} {p : Nat → Int} (hW : W ≤ 8) (eW : I0 1 2 = nI W) (hp : ∀ z, z < W → (I0 13 z).toInt = p z ∧ 1 ≤ p z ∧ p z ≤ 1000) (hN : N ≤ 100) (eN : n = nI N) (hm : ∀ j, rg (I0 18 j) 0 100000) (hT : rg (I0 1 3) 0 1000000) (hv : v < W) (ev : w = nI v) (h : ∀ (r : Int32) (I' : mv_I) (g : Nat → Int), mg_fr [20, 21, 22] I0 I' → QU (I0 1 3).toInt (fun z => (ofs (I0 15) (I0 16) (I0 19) a (nI z) N).1) p W g → r.toInt = g v + lz (I0 15) (I0 16) (I0 17) (I0 18) (I0 19) a w N → Q (some (.inl r)) I' J) : ∀ (k fu i : Nat) (x : Int32) (I : mv_I), x = nI i → i + k = W → mg_fr [20, 21, 22] I0 I → (∀ z, z < i → I 22 z = 1) → (∀ z, z < W → (I 20 z).toInt = 0) → 60 * (k + 1) + 1260 ≤ fu → mv_wp (mv_wpM mv_tab mv_sh d) mv_sh none tbX3_quotaOf flX3 csX3 1 (fun _ _ _ _ _ => False) Q fu 11 [some (.inr (.inr 1)), some (.inl w), some (.inl a), some (.inl n), some (.inl x)] [] I J := by
  intro k
  induction k with
  | zero =>
    intro fu i x I ex hi f0 h22 h20 hf
    obtain ⟨fu, rfl⟩ : ∃ z, fu = z + 60 := ⟨fu - 60, by omega⟩
    have ei : i = W := by omega
    subst ei
    have ew : I 1 2 = nI i := (congrFun (f0 1 rfl) 2).trans eW
    have et : I 1 3 = I0 1 3 := congrFun (f0 1 rfl) 3
    refine And.intro (fun q => ?_) (fun q => ?_)
    · refine e_part (B := fun _ => true) (p := p) (f := fun _ => 0) (by omega) _ hW ew (fun z hz => by rw [h22 z hz]; exact ⟨fun q => absurd q (by decide), fun q => by cases q⟩) (by rw [f0 13 rfl]; exact hp) (by rw [et]; obtain ⟨T0, T1⟩ := hT; exact ⟨by omega, by omega⟩) (fun z hz => ⟨h20 z hz, Int.le_refl _, by omega⟩) (fun I2 g2 f2 pt e2 => ?_)
      rw [et] at pt
      refine And.intro ?_ trivial
      exact x_qu2 hd hW eW hp hN eN hm hT hv ev h g2 pt i _ 0 _ _ nI_0.symm (by omega) (f0.tr (f2.mono rfl)) (fun z hz => absurd hz (by omega)) e2 (by omega)
    · exact absurd (by rw [ew, ex]; exact Int32.le_refl _) q
  | succ k ih =>
    intro fu i x I ex hi f0 h22 h20 hf
    obtain ⟨fu, rfl⟩ : ∃ z, fu = z + 60 := ⟨fu - 60, by omega⟩
    subst ex
    have ew : I 1 2 = nI W := (congrFun (f0 1 rfl) 2).trans eW
    have cx : (nI i).toNatClampNeg = i := nI_clamp (by omega)
    have Bx : vp_in (nI i) 8 := vp_in_nI (by omega) (by decide)
    refine And.intro (fun q => ?_) (fun q => ?_)
    · rw [ew] at q
      exact absurd q (nI_ge (by omega) (by omega))
    · refine And.intro Bx ?_
      refine And.intro ?_ trivial
      refine ih _ (i + 1) _ _ (nI_1 i) (by omega) (mg_fr.up f0 rfl) (fun z hz => ?_) h20 (by omega)
      show upd (I 22) (nI i).toNatClampNeg (vp_nar .boolean 1) z = 1
      rw [cx, nar_b1]
      unfold upd
      by_cases e : z = i
      · rw [if_pos e]
      · rw [if_neg e]; exact h22 z (by omega)
set_option maxHeartbeats 1000000 in
theorem e_quota {d : Nat} (hd : 4 ≤ d) (w a n : Int32) {I : mv_I} {J : mv_J} {Q : mv_Q} {W N v : Nat} {p : Nat → Int} (hW : W ≤ 8) (eW : I 1 2 = nI W) (hp : ∀ z, z < W → (I 13 z).toInt = p z ∧ 1 ≤ p z ∧ p z ≤ 1000) (hN : N ≤ 100) (eN : n = nI N) (hm : ∀ j, rg (I 18 j) 0 100000) (hT : rg (I 1 3) 0 1000000) (hv : v < W) (ev : w = nI v) (h : ∀ (r : Int32) (I' : mv_I) (g : Nat → Int), mg_fr [20, 21, 22] I I' → QU (I 1 3).toInt (fun z => (ofs (I 15) (I 16) (I 19) a (nI z) N).1) p W g → r.toInt = g v + lz (I 15) (I 16) (I 17) (I 18) (I 19) a w N → Q (some (.inl r)) I' J) : mv_wpM mv_tab mv_sh d 30 [.inr (.inr 1), .inl w, .inl a, .inl n] I J Q := by
  obtain ⟨d, rfl⟩ : ∃ e, d = e + 1 := ⟨d - 1, by omega⟩
  refine (show ∃ fu9, mv_wp (mv_wpM mv_tab mv_sh d) mv_sh none tbX3_quotaOf flX3 csX3 1 (fun _ _ _ _ _ => False) Q fu9 0 [some (.inr (.inr 1)), some (.inl w), some (.inl a), some (.inl n), none] [] I J from ?_)
  refine ⟨2100, ?_⟩
  refine c_fill20 (by omega) 0 ?_
  refine And.intro ?_ trivial
  refine x_qu1 (by omega) (I0 := I) hW eW hp hN eN hm hT hv ev h W _ 0 _ _ nI_0.symm (by omega) (mg_fr.up mg_fr.rf rfl) (fun z hz => absurd hz (by omega)) (fun z hz => ?_) (Nat.le_trans (show 60 * (W + 1) + 1260 ≤ 1800 by omega) (Nat.le_of_ble_eq_true rfl))
  show (if 0 ≤ z ∧ z < 8 then (0 : Int32) else I 20 z).toInt = 0
  rw [if_pos ⟨by omega, by omega⟩]
  decide
set_option maxHeartbeats 1000000 in
theorem e_unsh {d : Nat} (hd : 5 ≤ d) (w a : Int32) {I : mv_I} {J : mv_J} {Q : mv_Q} {W N v : Nat} {p : Nat → Int} (hW : W ≤ 8) (eW : I 1 2 = nI W) (hp : ∀ z, z < W → (I 13 z).toInt = p z ∧ 1 ≤ p z ∧ p z ≤ 1000) (hN : N ≤ 100) (eN : I 1 9 = nI N) (hm : ∀ j, rg (I 18 j) 0 100000) (hT : rg (I 1 3) 0 1000000) (hv : v < W) (ev : w = nI v) (h : ∀ (r : Int32) (I' : mv_I) (g : Nat → Int), mg_fr [20, 21, 22] I I' → QU (I 1 3).toInt (fun z => (ofs (I 15) (I 16) (I 19) a (nI z) N).1) p W g → r.toInt = g v + lz (I 15) (I 16) (I 17) (I 18) (I 19) a w N - (I 14 v).toInt → Q (some (.inl r)) I' J) (hs : rg (I 14 v) 0 30000000) : mv_wpM mv_tab mv_sh d 31 [.inr (.inr 1), .inl w, .inl a] I J Q := by
  obtain ⟨d, rfl⟩ : ∃ e, d = e + 1 := ⟨d - 1, by omega⟩
  refine (show ∃ fu9, mv_wp (mv_wpM mv_tab mv_sh d) mv_sh none tbX3_unshipped flX3 csX3 1 (fun _ _ _ _ _ => False) Q fu9 0 [some (.inr (.inr 1)), some (.inl w), some (.inl a)] [] I J from ?_)
  refine ⟨60, ?_⟩
  have cv : (nI v).toNatClampNeg = v := nI_clamp (by omega)
  refine e_quota (by omega) _ _ _ hW eW hp hN eN hm hT hv ev (fun r I2 g f2 qu er => ?_)
  refine And.intro (by rw [ev]; exact vp_in_nI (by omega) (by decide)) ?_
  have lb := lz_b (k := I 15) (o := I 16) (t := I 17) (wk := I 19) (a := a) (w := w) hm N
  have qb := QU_b hT hW (fun z hz => by have := (hp z hz).2.1; omega) qu v hv
  obtain ⟨s0, s1⟩ := hs
  refine h _ _ g f2 qu ?_
  have e14 : I2 14 w.toNatClampNeg = I 14 v := by rw [f2 14 rfl, ev, cv]
  rw [e14, mi_sub (by omega) (by omega), er]
