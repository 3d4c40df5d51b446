/-! the reference's quota -/
def lsO (f : Nat → Bool × Int32) (k wk : Nat → Int32) (i : Nat) (la : Int32) : Prop := (la = -1 ∧ f i = (true, 0)) ∨ ∃ e, e < i ∧ la = nI e ∧ f i = (decide (k e = 2), wk e)
set_option maxHeartbeats 1000000 in
theorem x_ropen {d : Nat} {w a n : Int32} {I : mv_I} {J : mv_J} {Q : mv_Q} {N : Nat} (hN : N ≤ 100) (eN : n = nI N) (hwk : ∀ j, 0 ≤ (I 62 j).toInt) (h : Q (some (.inl (if (ofs (I 58) (I 59) (I 62) a w N).1 = true then 1 else 0))) I J) : ∀ (k fu i : Nat) (la x : Int32) (c : Option mv_V), x = nI i → i + k = N → lsO (ofs (I 58) (I 59) (I 62) a w) (I 58) (I 62) i la → 80 * (k + 1) ≤ fu → mv_wp (mv_wpM mv_tab mv_sh d) mv_sh none tbX8_isOpen flX8 csX8 2 (fun _ _ _ _ _ => False) Q fu 6 [some (.inr (.inr 12)), some (.inl w), some (.inl a), some (.inl n), some (.inl la), some (.inl x), c] [] I J := by
  subst eN
  have m1 : (-1 : Int32) < 0 := by decide
  intro k
  induction k with
  | zero =>
    intro fu i la x c ex hi hl hf
    obtain ⟨fu, rfl⟩ : ∃ z, fu = z + 80 := ⟨fu - 80, by omega⟩
    have ei : i = N := by omega
    subst ei ex
    refine And.intro (fun q => ?_) (fun q => absurd (Int32.le_refl _) q)
    rcases hl with ⟨e1, e2⟩ | ⟨e, he, e1, e2⟩
    · subst e1
      refine And.intro (fun _ => ?_) (fun q => absurd m1 q)
      rw [e2, if_pos rfl] at h
      exact And.intro (Or.inr rfl) h
    · subst e1
      have ce : (nI e).toNatClampNeg = e := nI_clamp (by omega)
      refine And.intro (fun q => absurd q (nn0 (by omega))) (fun _ => ?_)
      refine And.intro (vp_in_nI (by omega) (by decide)) ?_
      rw [e2] at h
      refine And.intro (fun q2 => ?_) (fun q2 => ?_)
      · rw [ce] at q2
        rw [if_neg (by show ¬ decide (I 58 e = 2) = true; rw [decide_eq_true_iff]; exact q2)] at h
        exact And.intro (Or.inl rfl) h
      · rw [ce] at q2
        rw [if_pos (decide_eq_true q2)] at h
        exact And.intro (Or.inr rfl) h
  | succ k ih =>
    intro fu i la x c ex hi hl hf
    obtain ⟨fu, rfl⟩ : ∃ z, fu = z + 80 := ⟨fu - 80, by omega⟩
    subst ex
    have cx : (nI i).toNatClampNeg = i := nI_clamp (by omega)
    have B : vp_in (nI i) 100 := vp_in_nI (by omega) (by decide)
    have SK : ¬ (¬ I 58 i = 0 ∧ I 59 i = w ∧ I 62 i ≤ a ∧ (ofs (I 58) (I 59) (I 62) a w i).2 ≤ I 62 i) → ∀ (fu : Nat) (c : Option mv_V), 80 * (k + 1) ≤ fu → mv_wp (mv_wpM mv_tab mv_sh d) mv_sh none tbX8_isOpen flX8 csX8 2 (fun _ _ _ _ _ => False) Q fu 6 [some (.inr (.inr 12)), some (.inl w), some (.inl a), some (.inl (nI N)), some (.inl la), some (.inl (nI i + 1)), c] [] I J := fun nc fu c hf => ih _ (i + 1) _ _ _ (nI_1 i) (by omega) (by
      rcases hl with ⟨e1, e2⟩ | ⟨e, he, e1, e2⟩
      · exact Or.inl ⟨e1, by rw [ofs_n nc]; exact e2⟩
      · exact Or.inr ⟨e, by omega, e1, by rw [ofs_n nc]; exact e2⟩) hf
    have TK : (¬ I 58 i = 0 ∧ I 59 i = w ∧ I 62 i ≤ a ∧ (ofs (I 58) (I 59) (I 62) a w i).2 ≤ I 62 i) → ∀ (fu : Nat) (c : Option mv_V), 80 * (k + 1) ≤ fu → mv_wp (mv_wpM mv_tab mv_sh d) mv_sh none tbX8_isOpen flX8 csX8 2 (fun _ _ _ _ _ => False) Q fu 6 [some (.inr (.inr 12)), some (.inl w), some (.inl a), some (.inl (nI N)), some (.inl (nI i)), some (.inl (nI i + 1)), c] [] I J := fun nc fu c hf => ih _ (i + 1) _ _ _ (nI_1 i) (by omega) (Or.inr ⟨i, by omega, rfl, by rw [ofs_y nc]⟩) hf
    refine And.intro (fun q => absurd q (nI_ge (by omega) (by omega))) (fun q => ?_)
    refine And.intro B ?_
    refine And.intro (fun q1 => ?_) (fun q1 => ?_)
    · rw [cx] at q1
      refine And.intro (fun _ => ?_) (fun z => absurd rfl z)
      refine And.intro ?_ trivial
      exact SK (fun z => z.1 q1) _ _ (by omega)
    · rw [cx] at q1
      refine And.intro B ?_
      refine And.intro (fun q2 => ?_) (fun q2 => ?_)
      · rw [cx] at q2
        refine And.intro (fun _ => ?_) (fun z => absurd rfl z)
        refine And.intro ?_ trivial
        exact SK (fun z => q2 z.2.1) _ _ (by omega)
      · rw [cx] at q2
        refine And.intro B ?_
        refine And.intro (fun q3 => ?_) (fun q3 => ?_)
        · rw [cx] at q3
          refine And.intro (fun _ => ?_) (fun z => absurd rfl z)
          refine And.intro ?_ trivial
          exact SK (fun z => by have := z.2.2.1; rw [mi_le] at this; rw [mi_lt] at q3; omega) _ _ (by omega)
        · rw [cx] at q3
          have q3' : I 62 i ≤ a := by rw [mi_le]; rw [mi_lt] at q3; omega
          refine And.intro (fun z => absurd z (by decide)) (fun _ => ?_)
          rcases hl with ⟨e1, e2⟩ | ⟨e, he, e1, e2⟩
          · subst e1
            refine And.intro (fun _ => ?_) (fun q => absurd m1 q)
            refine And.intro ?_ trivial
            exact TK ⟨q1, q2, q3', by rw [e2]; show (0 : Int32) ≤ I 62 i; rw [mi_le]; have := hwk i; have : (0 : Int32).toInt = 0 := (by decide); omega⟩ _ _ (by omega)
          · subst e1
            have ce : (nI e).toNatClampNeg = e := nI_clamp (by omega)
            refine And.intro (fun q => absurd q (nn0 (by omega))) (fun _ => ?_)
            refine And.intro B ?_
            refine And.intro (vp_in_nI (by omega) (by decide)) ?_
            refine And.intro (fun q4 => ?_) (fun q4 => ?_)
            · rw [cx, ce] at q4
              refine And.intro ?_ trivial
              exact SK (fun z => by have t := z.2.2.2; rw [e2] at t; have t : I 62 e ≤ I 62 i := t; rw [mi_le] at t; rw [mi_lt] at q4; omega) _ _ (by omega)
            · rw [cx, ce] at q4
              refine And.intro ?_ trivial
              exact TK ⟨q1, q2, q3', by rw [e2]; show I 62 e ≤ I 62 i; rw [mi_le]; rw [mi_lt] at q4; omega⟩ _ _ (by omega)
set_option maxHeartbeats 1000000 in
theorem e_ropen {d : Nat} (hd : 1 ≤ d) (w a n : Int32) {I : mv_I} {J : mv_J} {Q : mv_Q} {N : Nat} (hN : N ≤ 100) (eN : n = nI N) (hwk : ∀ j, 0 ≤ (I 62 j).toInt) (h : Q (some (.inl (if (ofs (I 58) (I 59) (I 62) a w N).1 = true then 1 else 0))) I J) : mv_wpM mv_tab mv_sh d 90 [.inr (.inr 12), .inl w, .inl a, .inl n] I J Q := by
  obtain ⟨d, rfl⟩ : ∃ e, d = e + 1 := ⟨d - 1, by omega⟩
  refine (show ∃ fu9, mv_wp (mv_wpM mv_tab mv_sh d) mv_sh none tbX8_isOpen flX8 csX8 2 (fun _ _ _ _ _ => False) Q fu9 0 [some (.inr (.inr 12)), some (.inl w), some (.inl a), some (.inl n), none, none, none] [] I J from ?_)
  refine ⟨9000, ?_⟩
  refine And.intro ?_ trivial
  exact x_ropen hN eN hwk h N _ 0 _ _ _ nI_0.symm (by omega) (Or.inl ⟨rfl, rfl⟩) (Nat.le_trans (show 80 * (N + 1) ≤ 8080 by omega) (Nat.le_of_ble_eq_true rfl))
theorem hf_ys {W m fu : Nat} (hW : W ≤ 8) (hf : 900 * (m + 1 + 1) ≤ fu + 60) : 80 * (W + 1) + 900 * (m + 1) ≤ fu := by
  have h2 : 80 * (W + 1) ≤ 80 * 9 := Nat.mul_le_mul_left 80 (show W + 1 ≤ 9 by omega)
  rw [Nat.mul_succ 900 (m + 1)] at hf
  generalize 900 * (m + 1) = u at hf ⊢
  generalize 80 * (W + 1) = v at h2 ⊢
  omega
theorem su_eq {b b' : Nat → Bool} {p p' : Nat → Int} : ∀ (n : Nat), (∀ z, z < n → b z = b' z) → (∀ z, z < n → p z = p' z) → su b p n = su b' p' n
  | 0, _, _ => rfl
  | n + 1, h, g => by
    show su b p n + (bif b n then p n else 0) = su b' p' n + (bif b' n then p' n else 0)
    rw [su_eq n (fun z hz => h z (by omega)) (fun z hz => g z (by omega)), h n (by omega), g n (by omega)]
set_option maxHeartbeats 1000000 in
theorem y_part1 {d : Nat} {N : Int64} {s : Int32} {J : mv_J} {Q : mv_Q} {I0 : mv_I} {F : Nat} (hw : rg (I0 12 0) 0 8) (hp : mr_pt I0) (h : ∀ (I' : mv_I), mg_f2 [64] [] I0 I' → su (bi s) (pz I0) (I0 12 0).toNatClampNeg = 0 → Q none I' J) (K : ∀ (fu : Nat) (al : Int64) (I : mv_I), mg_f2 [64] [] I0 I → al.toInt = su (bi s) (pz I0) (I0 12 0).toNatClampNeg → ¬ al = 0 → (∀ z : Nat, (z : Int) < (I0 12 0).toInt → I 64 z = 0) → F ≤ fu → mv_wp (mv_wpM mv_tab mv_sh d) mv_sh none tbX8_part flX8 csX8 0 (fun _ _ _ _ _ => False) Q fu 70 [some (.inr (.inr 12)), some (.inr (.inl N)), none, some (.inl s), some (.inr (.inl al)), none, some (.inr (.inl N)), none, some (.inl 0), none, none] [] I J) : ∀ (k fu : Nat) (al : Int64) (x : Int32) (I : mv_I), 0 ≤ x.toInt → x.toInt ≤ (I0 12 0).toInt → mg_f2 [64] [] I0 I → al.toInt = su (bi s) (pz I0) x.toNatClampNeg → (∀ z : Nat, (z : Int) < x.toInt → I 64 z = 0) → ((I0 12 0).toInt - x.toInt).toNat < k → 60 * k + F ≤ fu → mv_wp (mv_wpM mv_tab mv_sh d) mv_sh none tbX8_part flX8 csX8 0 (fun _ _ _ _ _ => False) Q fu 6 [some (.inr (.inr 12)), some (.inr (.inl N)), none, some (.inl s), some (.inr (.inl al)), none, some (.inl x), none, none, none, none] [] I J := by
  intro k
  induction k with
  | zero => intro fu al x I h0 h1 h2 h3 h4 h5 hf; omega
  | succ k ih =>
    intro fu al x I h0 h1 h2 h3 h4 h5 hf
    obtain ⟨fu, rfl⟩ : ∃ z, fu = z + 60 := ⟨fu - 60, by omega⟩
    have ew : I 12 0 = I0 12 0 := h2 12 0 rfl rfl
    have e51 : I 51 = I0 51 := f2_fn h2 rfl (fun _ => rfl)
    obtain ⟨w0, w1⟩ := id hw
    have kx := mi_cl h0
    refine And.intro (fun q => ?_) (fun q => ?_)
    · have qx : x.toInt = (I0 12 0).toInt := by rw [ew] at q; (try simp only [mi_le, mi_lt, mi_eq] at *); have := mi_l; omega
      have kw := mi_cl w0
      have ex : x.toNatClampNeg = (I0 12 0).toNatClampNeg := by omega
      refine And.intro (fun q2 => ?_) (fun q2 => ?_)
      · have nz : ¬ al = 0 := fun z => q2 ((lg_cmp_eq _ _).mpr z)
        refine And.intro ?_ trivial
        exact K _ _ _ h2 (by rw [← ex]; exact h3) nz (fun z hz => h4 z (by omega)) (by omega)
      · exact h _ h2 (by rw [← ex, ← h3, (lg_cmp_eq _ _).mp q2]; decide)
    · have qx : x.toInt < (I0 12 0).toInt := by rw [ew] at q; (try simp only [mi_le, mi_lt, mi_eq] at *); have := mi_l; omega
      have e1 := mi_incl qx
      have k1 := mi_cl (x := x + 1) (by omega)
      have ek : (x + 1).toNatClampNeg = x.toNatClampNeg + 1 := by omega
      have B : vp_in x 8 := vp_in_iff.mpr ⟨by omega, by omega⟩
      have hpx := hp x.toNatClampNeg (by omega)
      obtain ⟨p0, p1⟩ := hpx
      obtain ⟨u0, u1⟩ := pz_su hp (b := bi s) (n := x.toNatClampNeg) (by omega)
      have G4 : ∀ z : Nat, (z : Int) < (x + 1).toInt → upd (I 64) x.toNatClampNeg (vp_nar .boolean 0) z = 0 := by
        intro z hz
        unfold upd
        by_cases z1 : z = x.toNatClampNeg
        · rw [if_pos z1]; decide
        · rw [if_neg z1]; exact h4 z (by omega)
      refine And.intro (fun q2 => ?_) (fun q2 => ?_)
      · have hb := bi_f h0 q2
        have c0 : (0 : Int64).toInt = 0 := by decide
        have G3 : (al + 0).toInt = su (bi s) (pz I0) (x + 1).toNatClampNeg := by
          rw [ek, mi_Ladd (by rw [c0]; omega) (by rw [c0]; omega), h3, c0]
          show _ = su (bi s) (pz I0) x.toNatClampNeg + (bif bi s x.toNatClampNeg then _ else 0)
          rw [hb]
          rfl
        refine And.intro B ?_
        refine And.intro ?_ trivial
        exact ih _ _ _ _ (by omega) (by omega) (mg_f2.up h2 rfl) G3 G4 (by omega) (by omega)
      · have hb := bi_t h0 q2
        have G3 : (al + (I 51 x.toNatClampNeg).toInt64).toInt = su (bi s) (pz I0) (x + 1).toNatClampNeg := by
          rw [ek, e51, mi_Ladd (by rw [mi_L]; omega) (by rw [mi_L]; omega), h3, mi_L]
          show _ = su (bi s) (pz I0) x.toNatClampNeg + (bif bi s x.toNatClampNeg then _ else 0)
          rw [hb]
          rfl
        refine And.intro B ?_
        refine And.intro B ?_
        refine And.intro ?_ trivial
        exact ih _ _ _ _ (by omega) (by omega) (mg_f2.up h2 rfl) G3 G4 (by omega) (by omega)
set_option maxHeartbeats 1000000 in
theorem y_cut {d : Nat} {N al : Int64} {s : Int32} {Q : mv_Q} {I : mv_I} {F W : Nat} {B : Nat → Bool} {p f : Nat → Int} (hW : W ≤ 8) (eW : I 12 0 = nI W) (hbi : ∀ z, z < W → bi s z = B z) (hp : ∀ z, z < W → (I 51 z).toInt = p z ∧ 1 ≤ p z ∧ p z ≤ 1000) (hN : 0 ≤ N.toInt ∧ N.toInt ≤ 1000001) (hA : al.toInt = su B p W) (nA : 0 < su B p W) (hf : ∀ z, z < W → 0 ≤ f z ∧ f z ≤ 100000000) (K : ∀ (fu : Nat) (lf : Int64) (y : Int32) (J : mv_J), (∀ z, z < W → (J 63 z).toInt = f z + (if B z = true then N.toInt * p z / su B p W else 0)) → lf.toInt = N.toInt - su B (fun z => N.toInt * p z / su B p W) W → 0 ≤ lf.toInt → lf.toInt ≤ ct B W → F ≤ fu → mv_wp (mv_wpM mv_tab mv_sh d) mv_sh none tbX8_part flX8 csX8 0 (fun _ _ _ _ _ => False) Q fu 136 [some (.inr (.inr 12)), some (.inr (.inl N)), none, some (.inl s), some (.inr (.inl al)), none, some (.inr (.inl lf)), none, some (.inl y), none, none] [] I J) : ∀ (k fu i : Nat) (lf : Int64) (x : Int32) (J : mv_J), x = nI i → i + k = W → (∀ z, z < W → (J 63 z).toInt = f z + (if z < i ∧ B z = true then N.toInt * p z / su B p W else 0)) → lf.toInt = N.toInt - su B (fun z => N.toInt * p z / su B p W) i → su B p W * (N.toInt - lf.toInt) ≤ N.toInt * su B p i → N.toInt * su B p i - su B p W * (N.toInt - lf.toInt) ≤ (su B p W - 1) * (ct B i : Int) → 80 * (k + 1) + F ≤ fu → mv_wp (mv_wpM mv_tab mv_sh d) mv_sh none tbX8_part flX8 csX8 0 (fun _ _ _ _ _ => False) Q fu 70 [some (.inr (.inr 12)), some (.inr (.inl N)), none, some (.inl s), some (.inr (.inl al)), none, some (.inr (.inl lf)), none, some (.inl x), none, none] [] I J := by
  have hp0 : ∀ z, z < W → 0 ≤ p z := fun z hz => by have := (hp z hz).2.1; omega
  obtain ⟨N0, N1⟩ := hN
  have nz : ¬ al = 0 := fun z => by rw [z] at hA; have : (0 : Int64).toInt = 0 := (by decide); omega
  intro k
  induction k with
  | zero =>
    intro fu i lf x J ex hi h63 eo d1 d2 hfu
    obtain ⟨fu, rfl⟩ : ∃ z, fu = z + 80 := ⟨fu - 80, by omega⟩
    have ei : i = W := by omega
    subst ei
    refine And.intro (fun q => ?_) (fun q => ?_)
    · have l0 := sh_nn nA N0 (Int.le_refl _) d1
      have l1 := sh_end nA d2 (Int.natCast_nonneg _)
      refine And.intro ?_ trivial
      refine K _ _ _ _ (fun z hz => ?_) eo l0 l1 (by omega)
      rw [h63 z hz]
      by_cases hb : B z = true
      · rw [if_pos hb, if_pos ⟨hz, hb⟩]
      · rw [if_neg hb, if_neg (fun q => hb q.2)]
    · exact absurd (by rw [eW, ex]; exact Int32.le_refl _) q
  | succ k ih =>
    intro fu i lf x J ex hi h63 eo d1 d2 hfu
    obtain ⟨fu, rfl⟩ : ∃ z, fu = z + 80 := ⟨fu - 80, by omega⟩
    subst ex
    have cx : (nI i).toNatClampNeg = i := nI_clamp (by omega)
    have tx : 0 ≤ (nI i).toInt := by rw [nI_toInt (by omega)]; omega
    have Bx : vp_in (nI i) 8 := vp_in_nI (by omega) (by decide)
    obtain ⟨p0, p1, p2⟩ := hp i (by omega)
    have es : su B p (i + 1) = su B p i + (bif B i then p i else 0) := rfl
    have ec : ct B (i + 1) = ct B i + (bif B i then 1 else 0) := rfl
    have ez : su B (fun z => N.toInt * p z / su B p W) (i + 1) = su B (fun z => N.toInt * p z / su B p W) i + (bif B i then N.toInt * p i / su B p W else 0) := rfl
    refine And.intro (fun q => ?_) (fun q => ?_)
    · rw [eW] at q
      exact absurd q (nI_ge (by omega) (by omega))
    · refine And.intro (fun q1 => ?_) (fun q1 => ?_)
      · have bf := bi_f tx q1
        rw [cx, hbi i (by omega)] at bf
        rw [bf] at es ec ez
        have es : su B p (i + 1) = su B p i + 0 := es
        have ec : ct B (i + 1) = ct B i := ec
        have ez : su B (fun z => N.toInt * p z / su B p W) (i + 1) = su B (fun z => N.toInt * p z / su B p W) i + 0 := ez
        rw [Int.add_zero] at es ez
        refine And.intro ?_ trivial
        refine ih _ (i + 1) _ _ _ (nI_1 i) (by omega) (fun z hz => ?_) (by rw [ez]; exact eo) (by rw [es]; exact d1) (by rw [es, ec]; exact d2) (by omega)
        rw [h63 z hz]
        by_cases g : z < i ∧ B z = true
        · rw [if_pos g, if_pos ⟨by omega, g.2⟩]
        · rw [if_neg g, if_neg (fun q => by
            by_cases e : z = i
            · have := q.2; rw [e, bf] at this; cases this
            · exact g ⟨by omega, q.2⟩)]
      · have bt := bi_t tx q1
        rw [cx, hbi i (by omega)] at bt
        rw [bt] at es ec ez
        have es : su B p (i + 1) = su B p i + p i := es
        have ec : ct B (i + 1) = ct B i + 1 := ec
        have ez : su B (fun z => N.toInt * p z / su B p W) (i + 1) = su B (fun z => N.toInt * p z / su B p W) i + N.toInt * p i / su B p W := ez
        have k1 := su_ge (b := B) W hp0 i (by omega) bt
        have np0 : 0 ≤ N.toInt * p i := Int.mul_nonneg N0 (by omega)
        have np1 : N.toInt * p i ≤ 1000001 * 1000 := Int.mul_le_mul N1 p2 (by omega) (by omega)
        obtain ⟨pv, hpv⟩ : ∃ v, v = I 51 i := ⟨_, rfl⟩
        rw [← hpv] at p0
        have em : (N * pv.toInt64).toInt = N.toInt * p i := by rw [mi_Lmul (by rw [mi_L, p0]; omega) (by rw [mi_L, p0]; omega), mi_L, p0]
        have eq : (N * pv.toInt64 / al).toInt = N.toInt * p i / su B p W := by rw [mi_Ldiv (by rw [em]; exact np0) (by rw [hA]; exact nA), em, hA]
        obtain ⟨s1, s2, s3, s4⟩ := sh_step nA N0 (hp0 i (by omega)) k1 eq d1 d2
        have l0 := sh_nn nA N0 (su_mono (b := B) W (show i ≤ W by omega) hp0) d1
        have lN : lf.toInt ≤ N.toInt := by
          have z := su_nn (b := B) (p := fun z => N.toInt * p z / su B p W) i (fun z hz => Int.ediv_nonneg (Int.mul_nonneg N0 (hp0 z (by omega))) (by omega))
          omega
        have el : (lf - N * pv.toInt64 / al).toInt = lf.toInt - (N * pv.toInt64 / al).toInt := mi_Lsub (by omega) (by omega)
        have eE : su B p W * (N.toInt - (lf - N * pv.toInt64 / al).toInt) = su B p W * (N.toInt - lf.toInt) + su B p W * (N * pv.toInt64 / al).toInt := by rw [el, ← Int.mul_add]; congr 1; omega
        have Gd1 : su B p W * (N.toInt - (lf - N * pv.toInt64 / al).toInt) ≤ N.toInt * su B p (i + 1) := by rw [eE, es]; exact s3
        have Gd2 : N.toInt * su B p (i + 1) - su B p W * (N.toInt - (lf - N * pv.toInt64 / al).toInt) ≤ (su B p W - 1) * (ct B (i + 1) : Int) := by rw [eE, es, ec]; exact s4
        have Go : (lf - N * pv.toInt64 / al).toInt = N.toInt - su B (fun z => N.toInt * p z / su B p W) (i + 1) := by rw [el, ez, eo, eq]; omega
        have hfi := hf i (by omega)
        have e63 := h63 i (by omega)
        rw [if_neg (fun q => absurd q.1 (by omega)), Int.add_zero] at e63
        have G63 : ∀ z, z < W → (vp_updL (J 63) i (J 63 i + N * pv.toInt64 / al) z).toInt = f z + (if z < i + 1 ∧ B z = true then N.toInt * p z / su B p W else 0) := by
          intro z hz
          unfold vp_updL
          by_cases e : z = i
          · rw [if_pos e, e, if_pos ⟨by omega, bt⟩, mi_Ladd (by omega) (by omega), eq, e63]
          · rw [if_neg e, h63 z hz]
            by_cases g : z < i ∧ B z = true
            · rw [if_pos g, if_pos ⟨by omega, g.2⟩]
            · rw [if_neg g, if_neg (fun q => g ⟨by omega, q.2⟩)]
        have E51 : I 51 (nI i).toNatClampNeg = pv := by rw [cx, hpv]
        refine And.intro Bx ?_
        refine And.intro Bx ?_
        refine And.intro nz ?_
        refine And.intro Bx ?_
        refine And.intro Bx ?_
        refine And.intro nz ?_
        refine And.intro ?_ trivial
        refine ih _ (i + 1) _ _ _ (nI_1 i) (by omega) (fun z hz => ?_) ?_ ?_ ?_ (by clear Gd1 Gd2 s3 s4 eE; omega)
        · have e := G63 z hz
          rw [← E51] at e
          show (vp_updL (J 63) (nI i).toNatClampNeg (J 63 (nI i).toNatClampNeg + N * (I 51 (nI i).toNatClampNeg).toInt64 / al) z).toInt = _
          rw [cx] at e ⊢
          exact e
        · rw [← E51] at Go; exact Go
        · rw [← E51] at Gd1; exact Gd1
        · rw [← E51] at Gd2; exact Gd2
def bsE (E : Nat → Bool) (r : Nat → Int) (i : Nat) (b : Int32) : Prop := (b = -1 ∧ ∀ z, z < i → E z = false) ∨ ∃ j, b = nI j ∧ isb E r i j
set_option maxHeartbeats 1000000 in
theorem y_best {d : Nat} {N al lf : Int64} {s : Int32} {Q : mv_Q} {I : mv_I} {J : mv_J} {F W : Nat} {B E : Nat → Bool} {r : Nat → Int} (hW : W ≤ 8) (eW : I 12 0 = nI W) (nz : ¬ al = 0) (hbi : ∀ z, z < W → bi s z = B z) (hE : ∀ z, z < W → E z = (B z && decide (I 64 z = 0))) (hr : ∀ z, z < W → (N * (I 51 z).toInt64 - N * (I 51 z).toInt64 / al * al).toInt = r z) (hx : ∃ z, z < W ∧ E z = true) (K : ∀ (fu j : Nat) (b x : Int32) (c : Option mv_V), b = nI j → isb E r W j → F ≤ fu → mv_wp (mv_wpM mv_tab mv_sh d) mv_sh none tbX8_part flX8 csX8 0 (fun _ _ _ _ _ => False) Q fu 136 [some (.inr (.inr 12)), some (.inr (.inl N)), none, some (.inl s), some (.inr (.inl al)), none, some (.inr (.inl (lf - 1))), none, some (.inl b), some (.inl x), c] [] (va_up I 64 (upd (I 64) b.toNatClampNeg (vp_nar .boolean 1))) (va_up J 63 (vp_updL (J 63) b.toNatClampNeg (J 63 b.toNatClampNeg + 1)))) : ∀ (k fu i : Nat) (b x : Int32) (c : Option mv_V), x = nI i → i + k = W → bsE E r i b → 80 * (k + 1) + F ≤ fu → mv_wp (mv_wpM mv_tab mv_sh d) mv_sh none tbX8_part flX8 csX8 0 (fun _ _ _ _ _ => False) Q fu 149 [some (.inr (.inr 12)), some (.inr (.inl N)), none, some (.inl s), some (.inr (.inl al)), none, some (.inr (.inl lf)), none, some (.inl b), some (.inl x), c] [] I J := by
  have m1 : (-1 : Int32) < 0 := by decide
  intro k
  induction k with
  | zero =>
    intro fu i b x c ex hi hb hf
    obtain ⟨fu, rfl⟩ : ∃ z, fu = z + 80 := ⟨fu - 80, by omega⟩
    have ei : i = W := by omega
    subst ei
    refine And.intro (fun q => ?_) (fun q => ?_)
    · rcases hb with ⟨b1, b2⟩ | ⟨j, b1, b2⟩
      · obtain ⟨z, z1, z2⟩ := hx
        rw [b2 z z1] at z2
        cases z2
      · have hj := b2.1
        have Bb : vp_in b 8 := by rw [b1]; exact vp_in_nI (by omega) (by decide)
        refine And.intro Bb ?_
        refine And.intro Bb ?_
        refine And.intro Bb ?_
        refine And.intro ?_ trivial
        exact K _ j _ _ _ b1 b2 (by omega)
    · exact absurd (by rw [eW, ex]; exact Int32.le_refl _) q
  | succ k ih =>
    intro fu i b x c ex hi hb hf
    obtain ⟨fu, rfl⟩ : ∃ z, fu = z + 80 := ⟨fu - 80, by omega⟩
    subst ex
    have cx : (nI i).toNatClampNeg = i := nI_clamp (by omega)
    have tx : 0 ≤ (nI i).toInt := by rw [nI_toInt (by omega)]; omega
    have Bx : vp_in (nI i) 8 := vp_in_nI (by omega) (by decide)
    have ST : E i = false → bsE E r (i + 1) b := by
      intro e
      rcases hb with ⟨b1, b2⟩ | ⟨j, b1, b2⟩
      · refine Or.inl ⟨b1, fun z hz => ?_⟩
        by_cases z1 : z = i
        · rw [z1]; exact e
        · exact b2 z (by omega)
      · refine Or.inr ⟨j, b1, by have := b2.1; omega, b2.2.1, fun z hz he => ?_, b2.2.2.2⟩
        by_cases z1 : z = i
        · rw [z1, e] at he; cases he
        · exact b2.2.2.1 z (by omega) he
    refine And.intro (fun q => ?_) (fun q => ?_)
    · rw [eW] at q
      exact absurd q (nI_ge (by omega) (by omega))
    · refine And.intro (fun q2 => ?_) (fun q2 => ?_)
      · have bf := bi_f tx q2
        rw [cx, hbi i (by omega)] at bf
        have GS := ST (by rw [hE i (by omega), bf]; rfl)
        refine And.intro (fun _ => ?_) (fun z => absurd rfl z)
        refine And.intro ?_ trivial
        exact ih _ (i + 1) _ _ _ (nI_1 i) (by omega) GS (by omega)
      · have bt := bi_t tx q2
        rw [cx, hbi i (by omega)] at bt
        refine And.intro Bx ?_
        refine And.intro (fun q3 => ?_) (fun q3 => ?_)
        · rw [cx] at q3
          have GS := ST (by rw [hE i (by omega), bt, decide_eq_false q3]; rfl)
          refine And.intro (fun _ => ?_) (fun z => absurd rfl z)
          refine And.intro ?_ trivial
          exact ih _ (i + 1) _ _ _ (nI_1 i) (by omega) GS (by omega)
        · rw [cx] at q3
          have el1 : E i = true := by rw [hE i (by omega), bt, decide_eq_true q3]; rfl
          refine And.intro (fun z => absurd z (by decide)) (fun _ => ?_)
          rcases hb with ⟨b1, b2⟩ | ⟨j, b1, b2⟩
          · subst b1
            refine And.intro (fun _ => ?_) (fun q => absurd m1 q)
            refine And.intro ?_ trivial
            refine ih _ (i + 1) _ _ _ (nI_1 i) (by omega) (Or.inr ⟨i, rfl, by omega, el1, fun z hz he => ?_, fun z hz he => ?_⟩) (by omega)
            · by_cases z1 : z = i
              · rw [z1]; exact Int.le_refl _
              · rw [b2 z (by omega)] at he; cases he
            · rw [b2 z hz] at he; cases he
          · subst b1
            obtain ⟨hj, j1, j2, j3⟩ := id b2
            have cj : (nI j).toNatClampNeg = j := nI_clamp (by omega)
            refine And.intro (fun q => absurd q (nn0 (by omega))) (fun _ => ?_)
            refine And.intro Bx ?_
            refine And.intro nz ?_
            refine And.intro (vp_in_nI (by omega) (by decide)) ?_
            refine And.intro nz ?_
            have ri := hr i (by omega)
            have rj := hr j (by omega)
            refine And.intro (fun q4 => ?_) (fun q4 => ?_)
            · rw [cx, cj] at q4
              have q5 := mi_Lle.mp ((lg_cmp_le _ _).mp q4)
              rw [ri, rj] at q5
              refine And.intro ?_ trivial
              refine ih _ (i + 1) _ _ _ (nI_1 i) (by omega) (Or.inr ⟨j, rfl, by omega, j1, fun z hz he => ?_, j3⟩) (by omega)
              by_cases z1 : z = i
              · rw [z1]; exact q5
              · exact j2 z (by omega) he
            · rw [cx, cj] at q4
              have q5 : r j < r i := by
                have z : ¬ (N * (I 51 i).toInt64 - N * (I 51 i).toInt64 / al * al) ≤ (N * (I 51 j).toInt64 - N * (I 51 j).toInt64 / al * al) := fun z => q4 ((lg_cmp_le _ _).mpr z)
                rw [mi_Lle, ri, rj] at z
                omega
              refine And.intro ?_ trivial
              refine ih _ (i + 1) _ _ _ (nI_1 i) (by omega) (Or.inr ⟨i, rfl, by omega, el1, fun z hz he => ?_, fun z hz he => ?_⟩) (by omega)
              · by_cases z1 : z = i
                · rw [z1]; exact Int.le_refl _
                · have := j2 z (by omega) he; omega
              · have := j2 z hz he; omega
set_option maxHeartbeats 1000000 in
theorem y_while {d : Nat} {N al : Int64} {s : Int32} {Q : mv_Q} {I0 : mv_I} {W : Nat} {B : Nat → Bool} {r : Nat → Int} (hW : W ≤ 8) (eW : I0 12 0 = nI W) (nz : ¬ al = 0) (hbi : ∀ z, z < W → bi s z = B z) (hr : ∀ z, z < W → (N * (I0 51 z).toInt64 - N * (I0 51 z).toInt64 / al * al).toInt = r z) : ∀ (m fu : Nat) (lf : Int64) (y z c : Option mv_V) (I : mv_I) (J : mv_J) (f : Nat → Int) (E : Nat → Bool), mg_f2 [64] [] I0 I → lf.toInt = m → (∀ z, z < W → E z = (B z && decide (I 64 z = 0))) → (∀ z, z < W → (J 63 z).toInt = f z ∧ 0 ≤ f z ∧ f z + m ≤ 1000000000) → m ≤ ct E W → 900 * (m + 1) ≤ fu → (∀ (I' : mv_I) (J' : mv_J) (g : Nat → Int), mg_f2 [64] [] I0 I' → RZ r W m f E g → (∀ z, z < W → (J' 63 z).toInt = g z) → Q none I' J') → mv_wp (mv_wpM mv_tab mv_sh d) mv_sh none tbX8_part flX8 csX8 0 (fun _ _ _ _ _ => False) Q fu 136 [some (.inr (.inr 12)), some (.inr (.inl N)), none, some (.inl s), some (.inr (.inl al)), none, some (.inr (.inl lf)), none, y, z, c] [] I J := by
  have c0 : (0 : Int64).toInt = 0 := by decide
  have c1 : (1 : Int64).toInt = 1 := by decide
  intro m
  induction m with
  | zero =>
    intro fu lf y z c I J f E f0 el hE h63 hm hf h
    obtain ⟨fu, rfl⟩ : ∃ z, fu = z + 60 := ⟨fu - 60, by omega⟩
    refine And.intro (fun q => ?_) (fun q => ?_)
    · exact h _ _ f f0 (fun z hz => rfl) (fun z hz => (h63 z hz).1)
    · exact absurd ((lg_cmp_le _ _).mpr (mi_Lle.mpr (by rw [c0]; omega))) q
  | succ m ih =>
    intro fu lf y z c I J f E f0 el hE h63 hm hf h
    obtain ⟨fu, rfl⟩ : ∃ z, fu = z + 60 := ⟨fu - 60, by omega⟩
    have HF2 : 80 * (W + 1) + 900 * (m + 1) ≤ fu := hf_ys hW hf
    have ew : I 12 0 = nI W := (f0 12 0 rfl rfl).trans eW
    have e51 : I 51 = I0 51 := f2_fn f0 rfl (fun _ => rfl)
    have hx := ct_ex (P := E) W (by omega)
    have hmx := mi_Lmax lf
    have e1 : (lf - 1).toInt = lf.toInt - 1 := by rw [mi_Lsub (by rw [c1]; omega) (by rw [c1]; omega), c1]
    refine And.intro (fun q => ?_) (fun q => ?_)
    · have z := mi_Lle.mp ((lg_cmp_le _ _).mp q)
      rw [c0] at z
      omega
    · refine And.intro ?_ trivial
      refine y_best (F := 900 * (m + 1)) hW ew nz hbi hE (by rw [e51]; exact hr) hx (fun fu2 j b2 x2 cc2 eb IB hf2 => ?_) W _ 0 _ _ _ nI_0.symm (by omega) (Or.inl ⟨rfl, fun z hz => absurd hz (by omega)⟩) (Nat.le_trans HF2 (Nat.le_add_right fu _))
      obtain ⟨hj, Ej, _, _⟩ := id IB
      subst eb
      have cj : (nI j).toNatClampNeg = j := nI_clamp (by omega)
      obtain ⟨s1, s2, s3⟩ := h63 j hj
      have oc := off_ct Ej hj
      refine ih _ _ _ _ _ _ _ (up1 f j (f j + 1)) (off E j) (mg_f2.up f0 rfl) (by omega) (fun z hz => ?_) (fun z hz => ?_) (by omega) hf2 (fun I' J' gg fr rz eg => h I' J' gg fr ⟨j, IB, rz⟩ eg)
      · show off E j z = (B z && decide (upd (I 64) (nI j).toNatClampNeg (vp_nar .boolean 1) z = 0))
        rw [cj, nar_b1]
        unfold off upd
        by_cases e : z = j
        · rw [if_pos e, if_pos e, show decide ((1 : Int32) = 0) = false from by decide, Bool.and_false]
        · rw [if_neg e, if_neg e]; exact hE z hz
      · show (vp_updL (J 63) (nI j).toNatClampNeg (J 63 (nI j).toNatClampNeg + 1) z).toInt = _ ∧ _
        rw [cj]
        unfold vp_updL up1
        by_cases e : z = j
        · rw [if_pos e, if_pos e, mi_Ladd (by rw [c1]; omega) (by rw [c1]; omega), c1]
          exact ⟨by omega, by omega, by omega⟩
        · rw [if_neg e, if_neg e]
          have := h63 z hz
          exact ⟨this.1, this.2.1, by omega⟩
theorem mi_Lrem {a b : Int64} (ha : 0 ≤ a.toInt) (hb : 0 < b.toInt) : (a - a / b * b).toInt = a.toInt % b.toInt := by
  have hm := mi_Lmax a
  have e1 := mi_Ldiv ha hb
  have e3 : a.toInt % b.toInt + b.toInt * (a.toInt / b.toInt) = a.toInt := Int.emod_add_mul_ediv a.toInt b.toInt
  have e4 := Int.emod_nonneg a.toInt (show b.toInt ≠ 0 by omega)
  have e5 : 0 ≤ a.toInt / b.toInt := Int.ediv_nonneg ha (by omega)
  have e6 : 0 ≤ b.toInt * (a.toInt / b.toInt) := Int.mul_nonneg (by omega) e5
  have e7 : (a / b * b).toInt = b.toInt * (a.toInt / b.toInt) := by
    rw [mi_Lmul (by rw [e1, Int.mul_comm]; omega) (by rw [e1, Int.mul_comm]; omega), e1, Int.mul_comm]
  rw [mi_Lsub (by rw [e7]; omega) (by rw [e7]; omega), e7]
  omega
set_option maxHeartbeats 1000000 in
theorem e_rpart {d : Nat} (hd : 1 ≤ d) (s : Int32) (N : Int64) {I : mv_I} {J : mv_J} {Q : mv_Q} {W : Nat} {B : Nat → Bool} {p f : Nat → Int} (hW : W ≤ 8) (eW : I 12 0 = nI W) (hbi : ∀ z, z < W → bi s z = B z) (hp : ∀ z, z < W → (I 51 z).toInt = p z ∧ 1 ≤ p z ∧ p z ≤ 1000) (hN : 0 ≤ N.toInt ∧ N.toInt ≤ 1000001) (hf : ∀ z, z < W → (J 63 z).toInt = f z ∧ 0 ≤ f z ∧ f z ≤ 100000000) (h : ∀ (I' : mv_I) (J' : mv_J) (g : Nat → Int), mg_f2 [64] [] I I' → PTR N.toInt B p W f g → (∀ z, z < W → (J' 63 z).toInt = g z) → Q none I' J') : mv_wpM mv_tab mv_sh d 91 [.inr (.inr 12), .inr (.inl N), .inl s] I J Q := by
  obtain ⟨d, rfl⟩ : ∃ e, d = e + 1 := ⟨d - 1, by omega⟩
  refine (show ∃ fu9, mv_wp (mv_wpM mv_tab mv_sh d) mv_sh none tbX8_part flX8 csX8 0 (fun _ _ _ _ _ => False) Q fu9 0 [some (.inr (.inr 12)), some (.inr (.inl N)), none, some (.inl s), none, none, none, none, none, none, none] [] I J from ?_)
  refine ⟨10600, ?_⟩
  have hw : rg (I 12 0) 0 8 := by rw [eW]; exact ⟨by rw [nI_toInt (by omega)]; omega, by rw [nI_toInt (by omega)]; omega⟩
  have cW : (I 12 0).toNatClampNeg = W := by rw [eW]; exact nI_clamp (by omega)
  have tW : (I 12 0).toInt = W := by rw [eW]; exact nI_toInt (by omega)
  have hmp : mr_pt I := fun j hj => by
    have z := hp j (by omega)
    exact ⟨by omega, by omega⟩
  have z32 : (0 : Int32).toInt = 0 := by decide
  have z32n : (0 : Int32).toNatClampNeg = 0 := by decide
  have hp0 : ∀ z, z < W → 0 ≤ p z := fun z hz => by have := (hp z hz).2.1; omega
  have u0 := su_nn (b := B) (p := p) W hp0
  have eS : su (bi s) (pz I) W = su B p W := su_eq W hbi (fun z hz => (hp z hz).1)
  refine And.intro ?_ trivial
  refine y_part1 (F := 10000) hw hmp (fun I' f9 z9 => ?_) (fun fu al I2 f2 hA nz g2 hfu => ?_) 9 _ _ _ _ (by decide) (by rw [z32]; exact hw.1) mg_f2.rf (by rw [z32n]; exact (show (0 : Int64).toInt = 0 by decide)) (fun z hz => absurd hz (by rw [z32]; omega)) (by rw [z32]; have := hw.2; omega) (Nat.le_of_ble_eq_true rfl)
  · rw [cW, eS] at z9
    exact h _ _ f f9 (Or.inl ⟨z9, fun _ _ => rfl⟩) (fun z hz => (hf z hz).1)
  · rw [cW, eS] at hA
    have nA : 0 < su B p W := by
      have : ¬ al.toInt = 0 := fun z => nz (Int64.toInt_inj.mp (z.trans (show (0 : Int) = (0 : Int64).toInt by decide)))
      omega
    have e0 : I2 12 0 = nI W := (f2 12 0 rfl rfl).trans eW
    have e51 : I2 51 = I 51 := f2_fn f2 rfl (fun _ => rfl)
    refine y_cut (F := 9000) (f := f) hW e0 hbi (by rw [e51]; exact hp) hN hA nA (fun z hz => (hf z hz).2) (fun fu3 lf y J3 p3 eo l0 l1 hf3 => ?_) W _ 0 _ _ _ nI_0.symm (by omega) (fun z hz => by rw [if_neg (fun q => absurd q.1 (by omega)), Int.add_zero]; exact (hf z hz).1) (by show N.toInt = N.toInt - 0; omega) (by rw [Int.sub_self, Int.mul_zero]; show (0 : Int) ≤ N.toInt * 0; omega) (by rw [Int.sub_self, Int.mul_zero]; show N.toInt * 0 - 0 ≤ (su B p W - 1) * ((0 : Nat) : Int); omega) (by omega)
    have cl := ct_le (P := B) W
    have bd : ∀ z, z < W → 0 ≤ (if B z = true then N.toInt * p z / su B p W else 0) ∧ (if B z = true then N.toInt * p z / su B p W else 0) ≤ N.toInt := by
      intro z hz
      by_cases hb : B z = true
      · rw [if_pos hb]
        have k1 := su_ge (b := B) W hp0 z hz hb
        have e7 : N.toInt * p z ≤ N.toInt * su B p W := Int.mul_le_mul_of_nonneg_left k1 hN.1
        have e8 := Int.ediv_le_ediv nA e7
        rw [Int.mul_ediv_cancel N.toInt (by omega)] at e8
        exact ⟨Int.ediv_nonneg (Int.mul_nonneg hN.1 (hp0 z hz)) (by omega), e8⟩
      · rw [if_neg hb]; exact ⟨by omega, hN.1⟩
    refine y_while (I0 := I2) (r := fun z => N.toInt * p z % su B p W) hW e0 nz hbi (fun z hz => ?_) lf.toInt.toNat _ _ _ _ _ _ _ (fun z => f z + (if B z = true then N.toInt * p z / su B p W else 0)) B mg_f2.rf (by omega) (fun z hz => ?_) (fun z hz => ?_) (by omega) (by omega) (fun I' J' g fr rz e => h I' J' g (f2.tr fr) (Or.inr ⟨by omega, by rw [← eo]; exact rz⟩) e)
    · obtain ⟨p0, p1, p2⟩ := hp z hz
      rw [e51]
      have np0 : 0 ≤ N.toInt * p z := Int.mul_nonneg hN.1 (by omega)
      have np1 : N.toInt * p z ≤ 1000001 * 1000 := Int.mul_le_mul hN.2 p2 (by omega) (by omega)
      have em : (N * (I 51 z).toInt64).toInt = N.toInt * p z := by rw [mi_Lmul (by rw [mi_L, p0]; omega) (by rw [mi_L, p0]; omega), mi_L, p0]
      rw [mi_Lrem (by rw [em]; exact np0) (by rw [hA]; exact nA), em, hA]
    · rw [decide_eq_true (g2 z (by rw [tW]; omega)), Bool.and_true]
    · have b1 := bd z hz
      have b2 := hf z hz
      exact ⟨p3 z hz, by omega, by omega⟩
theorem tb_bit : ∀ m, m < 256 → ∀ z, z < 8 → (nI m >>> (nI z &&& 31)) &&& 1 = if Nat.testBit m z = true then (1 : Int32) else 0 := by decide +kernel
theorem tb_or : ∀ m, m < 256 → ∀ w, w < 8 → nI m ||| (1 <<< (nI w &&& 31)) = nI (m ||| 2 ^ w) ∧ m ||| 2 ^ w < 256 := by decide +kernel
theorem tb_or0 : ∀ m, m < 256 → nI m ||| 0 = nI m := by decide +kernel
theorem tb_all : ∀ W, W < 9 → ∀ z, z < W → bi ((1 <<< (nI W &&& 31)) - 1) z = true := by decide +kernel
theorem tb_tst : ∀ w, w < 8 → ∀ z, z < 8 → Nat.testBit (2 ^ w) z = decide (z = w) := by decide +kernel
theorem tb_bi {m z : Nat} (hm : m < 256) (hz : z < 8) : bi (nI m) z = Nat.testBit m z := by
  unfold bi
  rw [tb_bit m hm z hz]
  cases Nat.testBit m z <;> decide
set_option maxHeartbeats 1000000 in
theorem y_quC {d : Nat} (hd : 1 ≤ d) {a n : Int32} {Q : mv_Q} {I0 : mv_I} {W N : Nat} {p : Nat → Int} (hW : W ≤ 8) (eW : I0 12 0 = nI W) (hp : ∀ z, z < W → (I0 51 z).toInt = p z ∧ 1 ≤ p z ∧ p z ≤ 1000) (hN : N ≤ 100) (eN : n = nI N) (hwk : ∀ j, 0 ≤ (I0 62 j).toInt) (hm : ∀ j, rg (I0 61 j) 0 100000) (t9 : ∀ j, rg (I0 59 j) 0 7 ∧ rg (I0 60 j) 0 7) (hT : rg (I0 12 10) 0 1000000) (h : ∀ (I' : mv_I) (J' : mv_J) (g : Nat → Int), mg_f2 [64] [] I0 I' → QU (I0 12 10).toInt (fun z => (ofs (I0 58) (I0 59) (I0 62) a (nI z) N).1) p W g → (∀ z, z < W → (J' 63 z).toInt = g z + lz (I0 58) (I0 59) (I0 60) (I0 61) (I0 62) a (nI z) N) → Q none I' J') (g : Nat → Int) (hg : QU (I0 12 10).toInt (fun z => (ofs (I0 58) (I0 59) (I0 62) a (nI z) N).1) p W g) : ∀ (k fu i : Nat) (op x : Int32) (y z : Option mv_V) (I : mv_I) (J : mv_J), x = nI i → i + k = N → mg_f2 [64] [] I0 I → (∀ z, z < W → (J 63 z).toInt = g z + lz (I0 58) (I0 59) (I0 60) (I0 61) (I0 62) a (nI z) i) → 80 * (k + 1) ≤ fu → mv_wp (mv_wpM mv_tab mv_sh d) mv_sh none tbX8_quotas flX8 csX8 0 (fun _ _ _ _ _ => False) Q fu 121 [some (.inr (.inr 12)), some (.inl a), some (.inl n), some (.inl op), some (.inl x), y, z] [] I J := by
  have hp0 : ∀ z, z < W → 0 ≤ p z := fun z hz => by have := (hp z hz).2.1; omega
  have QB := QU_b hT hW hp0 hg
  intro k
  induction k with
  | zero =>
    intro fu i op x y z I J ex hi f0 h63 hf
    obtain ⟨fu, rfl⟩ : ∃ z, fu = z + 80 := ⟨fu - 80, by omega⟩
    have ei : i = N := by omega
    subst ei ex eN
    refine And.intro (fun q => ?_) (fun q => absurd (Int32.le_refl _) q)
    exact h _ _ g f0 hg h63
  | succ k ih =>
    intro fu i op x y z I J ex hi f0 h63 hf
    obtain ⟨fu, rfl⟩ : ∃ z, fu = z + 80 := ⟨fu - 80, by omega⟩
    subst ex
    have e58 : I 58 = I0 58 := f2_fn f0 rfl (fun _ => rfl)
    have e59 : I 59 = I0 59 := f2_fn f0 rfl (fun _ => rfl)
    have e60 : I 60 = I0 60 := f2_fn f0 rfl (fun _ => rfl)
    have e61 : I 61 = I0 61 := f2_fn f0 rfl (fun _ => rfl)
    have e62 : I 62 = I0 62 := f2_fn f0 rfl (fun _ => rfl)
    have cx : (nI i).toNatClampNeg = i := nI_clamp (by omega)
    have Bx : vp_in (nI i) 100 := vp_in_nI (by omega) (by decide)
    refine And.intro (fun q => ?_) (fun q => ?_)
    · rw [eN] at q
      exact absurd q (nI_ge (by omega) (by omega))
    · refine And.intro Bx ?_
      refine And.intro (fun q1 => ?_) (fun q1 => ?_)
      · rw [cx, e58] at q1
        refine And.intro ?_ trivial
        exact ih _ (i + 1) _ _ _ _ _ _ (nI_1 i) (by omega) f0 (fun z hz => by rw [lz_n (fun q => q1 q.1)]; exact h63 z hz) (by omega)
      · rw [cx, e58] at q1
        refine And.intro Bx ?_
        refine And.intro (fun q2 => ?_) (fun q2 => ?_)
        · rw [cx, e62] at q2
          refine And.intro ?_ trivial
          exact ih _ (i + 1) _ _ _ _ _ _ (nI_1 i) (by omega) f0 (fun z hz => by rw [lz_n (fun q => by have := q.2; rw [mi_le] at this; rw [mi_lt] at q2; omega)]; exact h63 z hz) (by omega)
        · rw [cx, e62] at q2
          have C : I0 58 i = 0 ∧ I0 62 i ≤ a := ⟨q1, by rw [mi_le]; rw [mi_lt] at q2; omega⟩
          obtain ⟨⟨a0, a1⟩, ⟨b0, b1⟩⟩ := t9 i
          obtain ⟨s0, s1⟩ := hm i
          have ka := mi_cl a0
          have kb := mi_cl b0
          have na := mi_nI a0
          have nb := mi_nI b0
          have ha : vp_in (I 59 (nI i).toNatClampNeg) 8 := by rw [cx, e59]; exact vp_in_iff.mpr ⟨a0, by omega⟩
          have hb : vp_in (I 60 (nI i).toNatClampNeg) 8 := by rw [cx, e60]; exact vp_in_iff.mpr ⟨b0, by omega⟩
          refine And.intro Bx ?_
          refine And.intro ha ?_
          refine And.intro Bx ?_
          refine And.intro ha ?_
          refine And.intro Bx ?_
          refine And.intro hb ?_
          refine And.intro Bx ?_
          refine And.intro hb ?_
          refine And.intro ?_ trivial
          refine ih _ (i + 1) _ _ _ _ _ _ (nI_1 i) (by omega) f0 (fun z hz => ?_) (by omega)
          show (vp_updL (vp_updL (J 63) (I 59 (nI i).toNatClampNeg).toNatClampNeg (J 63 (I 59 (nI i).toNatClampNeg).toNatClampNeg - (I 61 (nI i).toNatClampNeg).toInt64)) (I 60 (nI i).toNatClampNeg).toNatClampNeg (vp_updL (J 63) (I 59 (nI i).toNatClampNeg).toNatClampNeg (J 63 (I 59 (nI i).toNatClampNeg).toNatClampNeg - (I 61 (nI i).toNatClampNeg).toInt64) (I 60 (nI i).toNatClampNeg).toNatClampNeg + (I 61 (nI i).toNatClampNeg).toInt64) z).toInt = _
          rw [cx, e59, e60, e61, lz_y C]
          have hz3 := h63 z hz
          have lb := lz_b (k := I0 58) (o := I0 59) (t := I0 60) (wk := I0 62) (a := a) (w := nI z) hm i
          have qz := QB z hz
          have tm : ((I0 61 i).toInt64).toInt = (I0 61 i).toInt := mi_L
          have E1 : (I0 59 i = nI z) ↔ (I0 59 i).toNatClampNeg = z := ⟨fun e => by rw [e]; exact nI_clamp (by omega), fun e => by rw [← e]; exact na.symm⟩
          have E2 : (I0 60 i = nI z) ↔ (I0 60 i).toNatClampNeg = z := ⟨fun e => by rw [e]; exact nI_clamp (by omega), fun e => by rw [← e]; exact nb.symm⟩
          have V1 : (vp_updL (J 63) (I0 59 i).toNatClampNeg (J 63 (I0 59 i).toNatClampNeg - (I0 61 i).toInt64) z).toInt = (J 63 z).toInt - (if I0 59 i = nI z then (I0 61 i).toInt else 0) := by
            unfold vp_updL
            by_cases e : z = (I0 59 i).toNatClampNeg
            · rw [if_pos e, if_pos (E1.mpr e.symm), ← e, mi_Lsub (by rw [tm]; omega) (by rw [tm]; omega), tm]
            · rw [if_neg e, if_neg (fun q => e (E1.mp q).symm), Int.sub_zero]
          have V1b : -1000000000 ≤ (vp_updL (J 63) (I0 59 i).toNatClampNeg (J 63 (I0 59 i).toNatClampNeg - (I0 61 i).toInt64) z).toInt ∧ (vp_updL (J 63) (I0 59 i).toNatClampNeg (J 63 (I0 59 i).toNatClampNeg - (I0 61 i).toInt64) z).toInt ≤ 1000000000 := by
            rw [V1]
            split
            · exact ⟨by omega, by omega⟩
            · exact ⟨by omega, by omega⟩
          generalize vp_updL (J 63) (I0 59 i).toNatClampNeg (J 63 (I0 59 i).toNatClampNeg - (I0 61 i).toInt64) = G at V1 V1b ⊢
          have V2 : (vp_updL G (I0 60 i).toNatClampNeg (G (I0 60 i).toNatClampNeg + (I0 61 i).toInt64) z).toInt = (G z).toInt + (if I0 60 i = nI z then (I0 61 i).toInt else 0) := by
            unfold vp_updL
            by_cases e : z = (I0 60 i).toNatClampNeg
            · rw [if_pos e, if_pos (E2.mpr e.symm), ← e, mi_Ladd (by rw [tm]; omega) (by rw [tm]; omega), tm]
            · rw [if_neg e, if_neg (fun q => e (E2.mp q).symm), Int.add_zero]
          rw [V2, V1, hz3]
          omega
set_option maxHeartbeats 1000000 in
theorem y_quB {d : Nat} (hd : 1 ≤ d) {a n : Int32} {Q : mv_Q} {I0 : mv_I} {W N : Nat} {p : Nat → Int} (hW : W ≤ 8) (eW : I0 12 0 = nI W) (hp : ∀ z, z < W → (I0 51 z).toInt = p z ∧ 1 ≤ p z ∧ p z ≤ 1000) (hN : N ≤ 100) (eN : n = nI N) (hwk : ∀ j, 0 ≤ (I0 62 j).toInt) (hm : ∀ j, rg (I0 61 j) 0 100000) (t9 : ∀ j, rg (I0 59 j) 0 7 ∧ rg (I0 60 j) 0 7) (hT : rg (I0 12 10) 0 1000000) (h : ∀ (I' : mv_I) (J' : mv_J) (g : Nat → Int), mg_f2 [64] [] I0 I' → QU (I0 12 10).toInt (fun z => (ofs (I0 58) (I0 59) (I0 62) a (nI z) N).1) p W g → (∀ z, z < W → (J' 63 z).toInt = g z + lz (I0 58) (I0 59) (I0 60) (I0 61) (I0 62) a (nI z) N) → Q none I' J') (f1 : Nat → Int) (hf1 : PTR (I0 12 10).toInt (fun _ => true) p W (fun _ => 0) f1) {m : Nat} (hm2 : m < 256) (hbit : ∀ z, z < W → Nat.testBit m z = (fun z => (ofs (I0 58) (I0 59) (I0 62) a (nI z) N).1) z) : ∀ (k fu i : Nat) (op x : Int32) (y z : Option mv_V) (I : mv_I) (J : mv_J) (g : Nat → Int), op = nI m → x = nI i → i + k = W → mg_f2 [64] [] I0 I → QL (fun z => (ofs (I0 58) (I0 59) (I0 62) a (nI z) N).1) p W i f1 g → (∀ z, z < W → (J 63 z).toInt = g z) → 60 * (k + 1) + 8200 ≤ fu → mv_wp (mv_wpM mv_tab mv_sh d) mv_sh none tbX8_quotas flX8 csX8 0 (fun _ _ _ _ _ => False) Q fu 70 [some (.inr (.inr 12)), some (.inl a), some (.inl n), some (.inl op), some (.inl x), y, z] [] I J := by
  have hp0 : ∀ z, z < W → 0 ≤ p z := fun z hz => by have := (hp z hz).2.1; omega
  obtain ⟨T0, T1⟩ := id hT
  have B1 : ∀ z, z < W → 0 ≤ f1 z ∧ f1 z ≤ 1000001 := fun z hz => by have := PTR_b T0 hp0 hf1 z hz; exact ⟨by omega, by omega⟩
  intro k
  induction k with
  | zero =>
    intro fu i op x y z I J g eo ex hi f0 ql h63 hf
    obtain ⟨fu, rfl⟩ : ∃ z, fu = z + 60 := ⟨fu - 60, by omega⟩
    have ei : i = W := by omega
    subst ei
    have ew : I 12 0 = nI i := (f0 12 0 rfl rfl).trans eW
    refine And.intro (fun q => ?_) (fun q => ?_)
    · refine And.intro ?_ trivial
      exact y_quC hd hW eW hp hN eN hwk hm t9 hT h g ⟨f1, hf1, ql⟩ N _ 0 _ _ _ _ _ _ nI_0.symm (by omega) f0 (fun z hz => by show (J 63 z).toInt = g z + 0; rw [h63 z hz]; omega) (by omega)
    · exact absurd (by rw [ew, ex]; exact Int32.le_refl _) q
  | succ k ih =>
    intro fu i op x y z I J g eo ex hi f0 ql h63 hf
    obtain ⟨fu, rfl⟩ : ∃ z, fu = z + 60 := ⟨fu - 60, by omega⟩
    subst ex eo
    have ew : I 12 0 = nI W := (f0 12 0 rfl rfl).trans eW
    have e51 : I 51 = I0 51 := f2_fn f0 rfl (fun _ => rfl)
    have cx : (nI i).toNatClampNeg = i := nI_clamp (by omega)
    have Bx : vp_in (nI i) 8 := vp_in_nI (by omega) (by decide)
    have QB := QL_b hp0 i f1 g (by omega) B1 ql
    refine And.intro (fun q => ?_) (fun q => ?_)
    · rw [ew] at q
      exact absurd q (nI_ge (by omega) (by omega))
    · refine And.intro (fun q1 => ?_) (fun q1 => ?_)
      · rw [tb_bit m hm2 i (by omega)] at q1
        have bt : (fun z => (ofs (I0 58) (I0 59) (I0 62) a (nI z) N).1) i = true := by
          rw [← hbit i (by omega)]
          cases hb : Nat.testBit m i with
          | true => rfl
          | false => rw [hb, if_neg (by decide)] at q1; exact absurd rfl q1
        refine And.intro ?_ trivial
        exact ih _ (i + 1) _ _ _ _ _ _ g rfl (nI_1 i) (by omega) f0 ⟨g, ql, Or.inl ⟨bt, fun _ _ => rfl⟩⟩ h63 (by omega)
      · rw [tb_bit m hm2 i (by omega)] at q1
        have bf : (fun z => (ofs (I0 58) (I0 59) (I0 62) a (nI z) N).1) i = false := by
          rw [← hbit i (by omega)]
          cases hb : Nat.testBit m i with
          | false => rfl
          | true => rw [hb, if_pos rfl] at q1; exact absurd q1 (by decide)
        refine And.intro Bx ?_
        refine And.intro Bx ?_
        have ei : (J 63 (nI i).toNatClampNeg).toInt = g i := by rw [cx]; exact h63 i (by omega)
        have q0 := QB i (by omega)
        have q2 := q0.2.2 bf (Nat.le_refl i)
        have q3 := B1 i (by omega)
        refine e_rpart (B := (fun z => (ofs (I0 58) (I0 59) (I0 62) a (nI z) N).1)) (p := p) (f := up1 g i 0) (by omega) _ _ hW ew (fun z hz => by rw [tb_bi hm2 (by omega)]; exact hbit z hz) (by rw [e51]; exact hp) (by rw [ei]; exact ⟨by omega, by omega⟩) (fun z hz => ?_) (fun I2 J2 g2 f2 pt e2 => ?_)
        · show (vp_updL (J 63) (nI i).toNatClampNeg 0 z).toInt = up1 g i 0 z ∧ _
          rw [cx]
          unfold vp_updL up1
          have qz := QB z hz
          by_cases e : z = i
          · rw [if_pos e, if_pos e]; exact ⟨by decide, by omega, by omega⟩
          · rw [if_neg e, if_neg e]; exact ⟨h63 z hz, qz.1, by have := qz.2.1; omega⟩
        · rw [ei] at pt
          refine And.intro ?_ trivial
          exact ih _ (i + 1) _ _ _ _ _ _ g2 rfl (nI_1 i) (by omega) (f0.tr f2) ⟨g, ql, Or.inr ⟨bf, pt⟩⟩ e2 (by omega)
set_option maxHeartbeats 1000000 in
theorem y_quA {d : Nat} (hd : 1 ≤ d) {a n : Int32} {Q : mv_Q} {I0 : mv_I} {W N : Nat} {p : Nat → Int} (hW : W ≤ 8) (eW : I0 12 0 = nI W) (hp : ∀ z, z < W → (I0 51 z).toInt = p z ∧ 1 ≤ p z ∧ p z ≤ 1000) (hN : N ≤ 100) (eN : n = nI N) (hwk : ∀ j, 0 ≤ (I0 62 j).toInt) (hm : ∀ j, rg (I0 61 j) 0 100000) (t9 : ∀ j, rg (I0 59 j) 0 7 ∧ rg (I0 60 j) 0 7) (hT : rg (I0 12 10) 0 1000000) (h : ∀ (I' : mv_I) (J' : mv_J) (g : Nat → Int), mg_f2 [64] [] I0 I' → QU (I0 12 10).toInt (fun z => (ofs (I0 58) (I0 59) (I0 62) a (nI z) N).1) p W g → (∀ z, z < W → (J' 63 z).toInt = g z + lz (I0 58) (I0 59) (I0 60) (I0 61) (I0 62) a (nI z) N) → Q none I' J') : ∀ (k fu i m : Nat) (op x : Int32) (J : mv_J), op = nI m → m < 256 → (∀ z, z < 8 → Nat.testBit m z = (decide (z < i) && (fun z => (ofs (I0 58) (I0 59) (I0 62) a (nI z) N).1) z)) → x = nI i → i + k = W → (∀ z, z < i → (J 63 z).toInt = 0) → 60 * (k + 1) + 8900 ≤ fu → mv_wp (mv_wpM mv_tab mv_sh d) mv_sh none tbX8_quotas flX8 csX8 0 (fun _ _ _ _ _ => False) Q fu 5 [some (.inr (.inr 12)), some (.inl a), some (.inl n), some (.inl op), some (.inl x), none, none] [] I0 J := by
  intro k
  induction k with
  | zero =>
    intro fu i m op x J eo hm2 hbit ex hi h63 hf
    obtain ⟨fu, rfl⟩ : ∃ z, fu = z + 60 := ⟨fu - 60, by omega⟩
    have ei : i = W := by omega
    subst ei
    refine And.intro (fun q => ?_) (fun q => ?_)
    · refine e_rpart (B := fun _ => true) (p := p) (f := fun _ => 0) (by omega) _ _ hW eW (fun z hz => by rw [eW]; exact tb_all i (by omega) z hz) hp (by rw [mi_L]; obtain ⟨T0, T1⟩ := hT; exact ⟨by omega, by omega⟩) (fun z hz => ⟨h63 z hz, Int.le_refl _, by omega⟩) (fun I2 J2 g2 f2 pt e2 => ?_)
      rw [mi_L] at pt
      refine And.intro ?_ trivial
      exact y_quB hd hW eW hp hN eN hwk hm t9 hT h g2 pt hm2 (fun z hz => by rw [hbit z (by omega), decide_eq_true hz, Bool.true_and]) i _ 0 _ _ _ _ _ _ g2 eo nI_0.symm (by omega) f2 (fun _ _ => rfl) e2 (by omega)
    · exact absurd (by rw [eW, ex]; exact Int32.le_refl _) q
  | succ k ih =>
    intro fu i m op x J eo hm2 hbit ex hi h63 hf
    obtain ⟨fu, rfl⟩ : ∃ z, fu = z + 60 := ⟨fu - 60, by omega⟩
    subst ex eo
    have cx : (nI i).toNatClampNeg = i := nI_clamp (by omega)
    have Bx : vp_in (nI i) 8 := vp_in_nI (by omega) (by decide)
    have G1 : ∀ z, z < i + 1 → (vp_updL (J 63) (nI i).toNatClampNeg 0 z).toInt = 0 := by
      intro z hz
      rw [cx]
      unfold vp_updL
      by_cases z1 : z = i
      · rw [if_pos z1]; decide
      · rw [if_neg z1]; exact h63 z (by omega)
    refine And.intro (fun q => ?_) (fun q => ?_)
    · rw [eW] at q
      exact absurd q (nI_ge (by omega) (by omega))
    · refine And.intro Bx ?_
      refine e_ropen (by omega) _ _ _ hN eN hwk ?_
      cases hb : (ofs (I0 58) (I0 59) (I0 62) a (nI i) N).1 with
      | false =>
        rw [if_neg (by decide)]
        refine And.intro (fun _ => ?_) (fun z => absurd rfl z)
        refine And.intro ?_ trivial
        refine ih _ (i + 1) m _ _ _ (tb_or0 m hm2) hm2 (fun z hz => ?_) (nI_1 i) (by omega) G1 (by omega)
        rw [hbit z hz]
        by_cases e : z = i
        · subst e
          show (decide (z < z) && (ofs (I0 58) (I0 59) (I0 62) a (nI z) N).1) = (decide (z < z + 1) && (ofs (I0 58) (I0 59) (I0 62) a (nI z) N).1)
          rw [hb, Bool.and_false, Bool.and_false]
        · have e2 : decide (z < i) = decide (z < i + 1) := decide_eq_decide.mpr ⟨fun q => by omega, fun q => by omega⟩
          rw [e2]
      | true =>
        rw [if_pos rfl]
        obtain ⟨o1, o2⟩ := tb_or m hm2 i (by omega)
        refine And.intro (fun z => absurd z (by decide)) (fun _ => ?_)
        refine And.intro ?_ trivial
        refine ih _ (i + 1) (m ||| 2 ^ i) _ _ _ o1 o2 (fun z hz => ?_) (nI_1 i) (by omega) G1 (by omega)
        rw [Nat.testBit_or, hbit z hz, tb_tst i (by omega) z hz]
        by_cases e : z = i
        · subst e
          show ((decide (z < z) && (ofs (I0 58) (I0 59) (I0 62) a (nI z) N).1) || decide (z = z)) = (decide (z < z + 1) && (ofs (I0 58) (I0 59) (I0 62) a (nI z) N).1)
          rw [hb, decide_eq_true (rfl : z = z), decide_eq_true (show z < z + 1 by omega), Bool.or_true]
          rfl
        · have e2 : decide (z < i) = decide (z < i + 1) := decide_eq_decide.mpr ⟨fun q => by omega, fun q => by omega⟩
          rw [e2, decide_eq_false e, Bool.or_false]
set_option maxHeartbeats 1000000 in
theorem e_rquotas {d : Nat} (hd : 2 ≤ d) (a n : Int32) {I : mv_I} {J : mv_J} {Q : mv_Q} {W N : Nat} {p : Nat → Int} (hW : W ≤ 8) (eW : I 12 0 = nI W) (hp : ∀ z, z < W → (I 51 z).toInt = p z ∧ 1 ≤ p z ∧ p z ≤ 1000) (hN : N ≤ 100) (eN : n = nI N) (hwk : ∀ j, 0 ≤ (I 62 j).toInt) (hm : ∀ j, rg (I 61 j) 0 100000) (t9 : ∀ j, rg (I 59 j) 0 7 ∧ rg (I 60 j) 0 7) (hT : rg (I 12 10) 0 1000000) (h : ∀ (I' : mv_I) (J' : mv_J) (g : Nat → Int), mg_f2 [64] [] I I' → QU (I 12 10).toInt (fun z => (ofs (I 58) (I 59) (I 62) a (nI z) N).1) p W g → (∀ z, z < W → (J' 63 z).toInt = g z + lz (I 58) (I 59) (I 60) (I 61) (I 62) a (nI z) N) → Q none I' J') : mv_wpM mv_tab mv_sh d 92 [.inr (.inr 12), .inl a, .inl n] I J Q := by
  obtain ⟨d, rfl⟩ : ∃ e, d = e + 1 := ⟨d - 1, by omega⟩
  refine (show ∃ fu9, mv_wp (mv_wpM mv_tab mv_sh d) mv_sh none tbX8_quotas flX8 csX8 0 (fun _ _ _ _ _ => False) Q fu9 0 [some (.inr (.inr 12)), some (.inl a), some (.inl n), none, none, none, none] [] I J from ?_)
  refine ⟨9500, ?_⟩
  refine And.intro ?_ trivial
  exact y_quA (by omega) (I0 := I) hW eW hp hN eN hwk hm t9 hT h W _ 0 0 _ _ _ nI_0.symm (by omega) (fun z hz => by rw [Nat.zero_testBit, decide_eq_false (show ¬ z < 0 by omega), Bool.false_and]) nI_0.symm (by omega) (fun z hz => absurd hz (by omega)) (Nat.le_trans (show 60 * (W + 1) + 8900 ≤ 9440 by omega) (Nat.le_of_ble_eq_true rfl))
