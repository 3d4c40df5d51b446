def gv (s : Int32) (f g : Nat → Int64) : Prop := ∀ z, g z = f z ∨ (bi s z = true ∧ g z = f z + 1)
set_option maxHeartbeats 1000000 in
theorem l_part3 {d : Nat} {N al : Int64} {s : Int32} {Q : mv_Q} {I0 : mv_I} {J0 : mv_J} (hw : rg (I0 12 0) 0 8) (nz : ¬ al = 0) (h : ∀ (I' : mv_I) (J' : mv_J), mg_f2 [64] [] I0 I' → gv s (J0 63) (J' 63) → Q none I' J') : ∀ (k fu : Nat) (lf : Int64) (y z c : Option mv_V) (I : mv_I) (J : mv_J), mg_f2 [64] [] I0 I → (∀ z, J 63 z = J0 63 z ∨ (bi s z = true ∧ ¬ I 64 z = 0 ∧ J 63 z = J0 63 z + 1)) → lf.toInt ≤ ct (el s I) (I0 12 0).toNatClampNeg → lf.toInt.toNat < k → 900 * k ≤ fu → mv_wp (mv_wpM mv_tab mv_sh d) mv_sh none tbX8_part flX8 csX8 0 (fun _ _ _ _ _ => False) Q fu 136 [some (.inr (.inr 12)), some (.inr (.inl N)), none, some (.inl s), some (.inr (.inl al)), none, some (.inr (.inl lf)), none, y, z, c] [] I J := by
  intro k
  induction k with
  | zero => intro fu lf y z c I J h0 h1 h2 h3 hf; omega
  | succ k ih =>
    intro fu lf y z c I J h0 h1 h2 h3 hf
    obtain ⟨fu, rfl⟩ : ∃ z, fu = z + 60 := ⟨fu - 60, by omega⟩
    have ew : I 12 0 = I0 12 0 := h0 12 0 rfl rfl
    obtain ⟨w0, w1⟩ := id hw
    have kw := mi_cl w0
    have c0 : (0 : Int64).toInt = 0 := by decide
    have c1 : (1 : Int64).toInt = 1 := by decide
    refine And.intro (fun q => ?_) (fun q => ?_)
    · exact h _ _ h0 (fun z => (h1 z).elim Or.inl (fun e => Or.inr ⟨e.1, e.2.2⟩))
    · have qx : 0 < lf.toInt := by
        have z : ¬ lf ≤ 0 := fun z => q ((lg_cmp_le _ _).mpr z)
        rw [mi_Lle, c0] at z
        omega
      have hm := mi_Lmax lf
      have e1 : (lf - 1).toInt = lf.toInt - 1 := by rw [mi_Lsub (by rw [c1]; omega) (by rw [c1]; omega), c1]
      have hx := ct_ex (P := el s I) (I0 12 0).toNatClampNeg (by omega)
      have hwI : rg (I 12 0) 0 8 := by rw [ew]; exact hw
      refine And.intro ?_ trivial
      refine l_part4 (F := 900 * k) hwI nz (by rw [ew]; exact hx) (fun fu2 b2 x2 cc2 hb0 hb1 hel hf2 => ?_) 9 _ _ _ _ (by decide) (by rw [ew]; exact w0) (Or.inl ⟨rfl, fun z hz => absurd hz (by have : (0 : Int32).toNatClampNeg = 0 := (by decide); omega)⟩) (by rw [ew]; have : (0 : Int32).toInt = 0 := (by decide); omega) (by omega)
      have kb := mi_cl hb0
      rw [ew] at hb1
      have bi1 : bi s b2.toNatClampNeg = true := by unfold el at hel; exact (Bool.and_eq_true_iff.mp hel).1
      have gz : I 64 b2.toNatClampNeg = 0 := by unfold el at hel; exact of_decide_eq_true (Bool.and_eq_true_iff.mp hel).2
      have u1 : ∀ z, z ≠ b2.toNatClampNeg → upd (I 64) b2.toNatClampNeg (vp_nar .boolean 1) z = I 64 z := fun z hz => by unfold upd; rw [if_neg hz]
      have u2 : upd (I 64) b2.toNatClampNeg (vp_nar .boolean 1) b2.toNatClampNeg = 1 := by unfold upd; rw [if_pos rfl]; decide
      have co := ct_off (P := el s I) (R := el s (va_up I 64 (upd (I 64) b2.toNatClampNeg (vp_nar .boolean 1)))) (b := b2.toNatClampNeg) hel (by
        show (bi s b2.toNatClampNeg && decide (upd (I 64) b2.toNatClampNeg (vp_nar .boolean 1) b2.toNatClampNeg = 0)) = false
        rw [u2]
        cases bi s b2.toNatClampNeg <;> decide) (fun z hz => by
        show (bi s z && decide (upd (I 64) b2.toNatClampNeg (vp_nar .boolean 1) z = 0)) = (bi s z && decide (I 64 z = 0))
        rw [u1 z hz]) (I0 12 0).toNatClampNeg (by omega)
      refine ih _ _ _ _ _ _ _ (mg_f2.up h0 rfl) (fun z => ?_) (by omega) (by omega) hf2
      show vp_updL (J 63) b2.toNatClampNeg (J 63 b2.toNatClampNeg + 1) z = J0 63 z ∨ (bi s z = true ∧ ¬ upd (I 64) b2.toNatClampNeg (vp_nar .boolean 1) z = 0 ∧ vp_updL (J 63) b2.toNatClampNeg (J 63 b2.toNatClampNeg + 1) z = J0 63 z + 1)
      by_cases z1 : z = b2.toNatClampNeg
      · subst z1
        have v1 : vp_updL (J 63) b2.toNatClampNeg (J 63 b2.toNatClampNeg + 1) b2.toNatClampNeg = J 63 b2.toNatClampNeg + 1 := by unfold vp_updL; rw [if_pos rfl]
        rw [v1, u2]
        rcases h1 b2.toNatClampNeg with e | e
        · exact Or.inr ⟨bi1, by decide, by rw [e]⟩
        · exact absurd gz e.2.1
      · have v1 : vp_updL (J 63) b2.toNatClampNeg (J 63 b2.toNatClampNeg + 1) z = J 63 z := by unfold vp_updL; rw [if_neg z1]
        rw [v1, u1 z z1]
        exact h1 z
