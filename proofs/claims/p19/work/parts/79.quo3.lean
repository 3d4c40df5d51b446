def el (s : Int32) (I : mv_I) (z : Nat) : Bool := bi s z && decide (I 64 z = 0)
def bst (s : Int32) (I : mv_I) (b : Int32) (n : Nat) : Prop := (b = -1 ∧ ∀ z, z < n → el s I z = false) ∨ (0 ≤ b.toInt ∧ b.toNatClampNeg < n ∧ el s I b.toNatClampNeg = true)
set_option maxHeartbeats 1000000 in
theorem l_part4 {d : Nat} {N al lf : Int64} {s : Int32} {Q : mv_Q} {I : mv_I} {J : mv_J} {F : Nat} (hw : rg (I 12 0) 0 8) (nz : ¬ al = 0) (hx : ∃ z, z < (I 12 0).toNatClampNeg ∧ el s I z = true) (K : ∀ (fu : Nat) (b x : Int32) (c : Option mv_V), 0 ≤ b.toInt → b.toInt < (I 12 0).toInt → el s I b.toNatClampNeg = true → F ≤ fu → mv_wp (mv_wpM mv_tab mv_sh d) mv_sh none tbX8_part flX8 csX8 0 (fun _ _ _ _ _ => False) Q fu 136 [some (.inr (.inr 12)), some (.inr (.inl N)), none, some (.inl s), some (.inr (.inl al)), none, some (.inr (.inl (lf - 1))), none, some (.inl b), some (.inl x), c] [] (va_up I 64 (upd (I 64) b.toNatClampNeg (vp_nar .boolean 1))) (va_up J 63 (vp_updL (J 63) b.toNatClampNeg (J 63 b.toNatClampNeg + 1)))) : ∀ (k fu : Nat) (b x : Int32) (c : Option mv_V), 0 ≤ x.toInt → x.toInt ≤ (I 12 0).toInt → bst s I b x.toNatClampNeg → ((I 12 0).toInt - x.toInt).toNat < k → 80 * k + F ≤ fu → mv_wp (mv_wpM mv_tab mv_sh d) mv_sh none tbX8_part flX8 csX8 0 (fun _ _ _ _ _ => False) Q fu 149 [some (.inr (.inr 12)), some (.inr (.inl N)), none, some (.inl s), some (.inr (.inl al)), none, some (.inr (.inl lf)), none, some (.inl b), some (.inl x), c] [] I J := by
  intro k
  induction k with
  | zero => intro fu b x c h0 h1 h2 h3 hf; omega
  | succ k ih =>
    intro fu b x c h0 h1 h2 h3 hf
    obtain ⟨fu, rfl⟩ : ∃ z, fu = z + 80 := ⟨fu - 80, by omega⟩
    obtain ⟨w0, w1⟩ := id hw
    have kx := mi_cl h0
    have kw := mi_cl w0
    refine And.intro (fun q => ?_) (fun q => ?_)
    · have qx : x.toInt = (I 12 0).toInt := by rw [mi_le] at q; omega
      have ex : x.toNatClampNeg = (I 12 0).toNatClampNeg := by omega
      rcases h2 with ⟨b1, b2⟩ | ⟨b1, b2, b3⟩
      · obtain ⟨z, z1, z2⟩ := hx
        rw [b2 z (by omega)] at z2
        cases z2
      · have kb := mi_cl b1
        have Bb : vp_in b 8 := vp_in_iff.mpr ⟨b1, by omega⟩
        refine And.intro Bb ?_
        refine And.intro Bb ?_
        refine And.intro Bb ?_
        refine And.intro ?_ trivial
        exact K _ _ _ _ b1 (by omega) b3 (by omega)
    · have qx : x.toInt < (I 12 0).toInt := by rw [mi_le] at q; omega
      have e1 := mi_incl qx
      have k1 := mi_cl (x := x + 1) (by omega)
      have ek : (x + 1).toNatClampNeg = x.toNatClampNeg + 1 := by omega
      have B : vp_in x 8 := vp_in_iff.mpr ⟨by omega, by omega⟩
      have G0 : 0 ≤ (x + 1).toInt := by omega
      have G1 : (x + 1).toInt ≤ (I 12 0).toInt := by omega
      have G9 : ((I 12 0).toInt - (x + 1).toInt).toNat < k := by omega
      have ST : el s I x.toNatClampNeg = false → bst s I b (x + 1).toNatClampNeg := by
        intro e
        rw [ek]
        rcases h2 with ⟨b1, b2⟩ | ⟨b1, b2, b3⟩
        · refine Or.inl ⟨b1, fun z hz => ?_⟩
          by_cases z1 : z = x.toNatClampNeg
          · rw [z1]; exact e
          · exact b2 z (by omega)
        · exact Or.inr ⟨b1, by omega, b3⟩
      have TK : el s I x.toNatClampNeg = true → bst s I x (x + 1).toNatClampNeg := fun e => Or.inr ⟨h0, by omega, e⟩
      refine And.intro (fun q2 => ?_) (fun q2 => ?_)
      · have GS := ST (by unfold el; rw [bi_f h0 q2]; rfl)
        refine And.intro (fun _ => ?_) (fun z => absurd rfl z)
        refine And.intro ?_ trivial
        exact ih _ _ _ _ G0 G1 GS G9 (by omega)
      · refine And.intro B ?_
        refine And.intro (fun q3 => ?_) (fun q3 => ?_)
        · have GS := ST (by unfold el; rw [bi_t h0 q2, decide_eq_false q3]; rfl)
          refine And.intro (fun _ => ?_) (fun z => absurd rfl z)
          refine And.intro ?_ trivial
          exact ih _ _ _ _ G0 G1 GS G9 (by omega)
        · have el1 : el s I x.toNatClampNeg = true := by unfold el; rw [bi_t h0 q2, decide_eq_true q3]; rfl
          have GT := TK el1
          refine And.intro (fun z => absurd z (by decide)) (fun _ => ?_)
          refine And.intro (fun q4 => ?_) (fun q4 => ?_)
          · refine And.intro ?_ trivial
            exact ih _ _ _ _ G0 G1 GT G9 (by omega)
          · rcases h2 with ⟨b1, b2⟩ | ⟨b1, b2, b3⟩
            · exact absurd (show b < 0 by rw [b1]; decide) q4
            · have kb := mi_cl b1
              have Bb : vp_in b 8 := vp_in_iff.mpr ⟨b1, by omega⟩
              have GB : bst s I b (x + 1).toNatClampNeg := Or.inr ⟨b1, by omega, b3⟩
              refine And.intro B ?_
              refine And.intro nz ?_
              refine And.intro Bb ?_
              refine And.intro nz ?_
              refine And.intro (fun _ => ?_) (fun _ => ?_)
              · refine And.intro ?_ trivial
                exact ih _ _ _ _ G0 G1 GB G9 (by omega)
              · refine And.intro ?_ trivial
                exact ih _ _ _ _ G0 G1 GT G9 (by omega)
