theorem mi_Lmax (x : Int64) : x.toInt ≤ 9223372036854775807 := by have := Int64.toInt_lt x; omega
theorem mi_Ldiv {a b : Int64} (ha : 0 ≤ a.toInt) (hb : 0 < b.toInt) : (a / b).toInt = a.toInt / b.toInt := by
  have hm := mi_Lmax a
  rw [Int64.toInt_div]
  rw [Int.tdiv_eq_ediv_of_nonneg ha]
  have h1 : a.toInt / b.toInt ≤ a.toInt := Int.ediv_le_self _ ha
  have h2 : 0 ≤ a.toInt / b.toInt := Int.ediv_nonneg ha (by omega)
  exact Int.bmod_eq_of_le (by omega) (by omega)
theorem su_mono {b : Nat → Bool} {p : Nat → Int} {m : Nat} : ∀ (n : Nat), m ≤ n → (∀ z, z < n → 0 ≤ p z) → su b p m ≤ su b p n
  | 0, h, _ => by rw [show m = 0 by omega]; exact Int.le_refl _
  | n + 1, h, hp => by
    by_cases e : m = n + 1
    · rw [e]; exact Int.le_refl _
    · have h1 := su_mono (b := b) n (show m ≤ n by omega) (fun z hz => hp z (by omega))
      have h2 := hp n (by omega)
      have h3 : su b p (n + 1) = su b p n + (bif b n then p n else 0) := rfl
      rw [h3]
      cases b n <;> simp only [cond_true, cond_false] <;> omega
/-- a step of the sharing out: the product, its share, what is left over -/
theorem sh_step {N A p q S E c : Int} (hA : 0 < A) (hN : 0 ≤ N) (hp : 0 ≤ p) (hpA : p ≤ A) (hq : q = N * p / A) (h0 : E ≤ N * S) (h1 : N * S - E ≤ (A - 1) * c) : 0 ≤ q ∧ q ≤ N ∧ E + A * q ≤ N * (S + p) ∧ N * (S + p) - (E + A * q) ≤ (A - 1) * (c + 1) := by
  have e1 : N * (S + p) = N * S + N * p := Int.mul_add N S p
  have e2 : (A - 1) * (c + 1) = (A - 1) * c + (A - 1) := by rw [Int.mul_add, Int.mul_one]
  have e3 : N * p % A + A * (N * p / A) = N * p := Int.emod_add_mul_ediv (N * p) A
  have e4 := Int.emod_nonneg (N * p) (show A ≠ 0 by omega)
  have e5 := Int.emod_lt_of_pos (N * p) hA
  have e6 : 0 ≤ N * p := Int.mul_nonneg hN hp
  have e7 : N * p ≤ N * A := Int.mul_le_mul_of_nonneg_left hpA hN
  rw [← hq] at e3
  refine ⟨?_, ?_, by omega, by omega⟩
  · rw [hq]; exact Int.ediv_nonneg e6 (by omega)
  · rw [hq]
    have := Int.ediv_le_ediv hA e7
    rw [Int.mul_ediv_cancel N (by omega)] at this
    exact this
theorem sh_end {N A l c : Int} (hA : 0 < A) (h1 : N * A - A * (N - l) ≤ (A - 1) * c) (hc : 0 ≤ c) : l ≤ c := by
  have e1 : A * (N - l) = A * N - A * l := Int.mul_sub A N l
  have e2 : (A - 1) * c = A * c - c := by rw [Int.sub_mul, Int.one_mul]
  have e3 : N * A = A * N := Int.mul_comm N A
  by_cases h : l ≤ c
  · exact h
  · have h2 : A * (c + 1) ≤ A * l := Int.mul_le_mul_of_nonneg_left (by omega) (by omega)
    have e4 : A * (c + 1) = A * c + A := by rw [Int.mul_add, Int.mul_one]
    omega
theorem sh_nn {N A l S : Int} (hA : 0 < A) (hN : 0 ≤ N) (hS : S ≤ A) (h : A * (N - l) ≤ N * S) : 0 ≤ l := by
  have e1 : A * (N - l) = A * N - A * l := Int.mul_sub A N l
  have e3 : N * A = A * N := Int.mul_comm N A
  have e7 : N * S ≤ N * A := Int.mul_le_mul_of_nonneg_left hS hN
  by_cases g : 0 ≤ l
  · exact g
  · have h2 : A * 1 ≤ A * (-l) := Int.mul_le_mul_of_nonneg_left (by omega) (by omega)
    have e4 : A * (-l) = -(A * l) := Int.mul_neg A l
    omega
def pq2 (s : Int32) (N : Int64) (n : Nat) (f g : Nat → Int64) : Prop := (∀ z, n ≤ z → g z = f z) ∧ (∀ z, bi s z = false → g z = f z) ∧ (∀ z, z < n → (f z).toInt = 0 → 0 ≤ (g z).toInt ∧ (g z).toInt ≤ N.toInt)
set_option maxHeartbeats 1000000 in
theorem l_part2 {d : Nat} {N al : Int64} {s : Int32} {Q : mv_Q} {I : mv_I} {J0 : mv_J} {F : Nat} (hw : rg (I 12 0) 0 8) (hp : mr_pt I) (hN : 0 ≤ N.toInt ∧ N.toInt ≤ 1000000000) (hA : al.toInt = su (bi s) (pz I) (I 12 0).toNatClampNeg) (nz : ¬ al = 0) (K : ∀ (fu : Nat) (lf : Int64) (y : Int32) (J : mv_J), pq2 s N (I 12 0).toNatClampNeg (J0 63) (J 63) → 0 ≤ lf.toInt → lf.toInt ≤ ct (bi s) (I 12 0).toNatClampNeg → F ≤ fu → mv_wp (mv_wpM mv_tab mv_sh d) mv_sh none tbX8_part flX8 csX8 0 (fun _ _ _ _ _ => False) Q fu 136 [some (.inr (.inr 12)), some (.inr (.inl N)), none, some (.inl s), some (.inr (.inl al)), none, some (.inr (.inl lf)), none, some (.inl y), none, none] [] I J) : ∀ (k fu : Nat) (lf : Int64) (x : Int32) (J : mv_J), 0 ≤ x.toInt → x.toInt ≤ (I 12 0).toInt → lf.toInt ≤ N.toInt → al.toInt * (N.toInt - lf.toInt) ≤ N.toInt * su (bi s) (pz I) x.toNatClampNeg → N.toInt * su (bi s) (pz I) x.toNatClampNeg - al.toInt * (N.toInt - lf.toInt) ≤ (al.toInt - 1) * (ct (bi s) x.toNatClampNeg : Int) → pq2 s N x.toNatClampNeg (J0 63) (J 63) → ((I 12 0).toInt - x.toInt).toNat < k → 80 * k + F ≤ fu → mv_wp (mv_wpM mv_tab mv_sh d) mv_sh none tbX8_part flX8 csX8 0 (fun _ _ _ _ _ => False) Q fu 70 [some (.inr (.inr 12)), some (.inr (.inl N)), none, some (.inl s), some (.inr (.inl al)), none, some (.inr (.inl lf)), none, some (.inl x), none, none] [] I J := by
  intro k
  induction k with
  | zero => intro fu lf x J h0 h1 h2 h3 h4 h5 h6 hf; omega
  | succ k ih =>
    intro fu lf x J h0 h1 h2 h3 h4 h5 h6 hf
    obtain ⟨fu, rfl⟩ : ∃ z, fu = z + 80 := ⟨fu - 80, by omega⟩
    obtain ⟨w0, w1⟩ := id hw
    obtain ⟨N0, N1⟩ := hN
    have kx := mi_cl h0
    have kw := mi_cl w0
    have xw : x.toNatClampNeg ≤ (I 12 0).toNatClampNeg := by omega
    have pp : ∀ z, z < (I 12 0).toNatClampNeg → 0 ≤ pz I z := fun z hz => by have := (hp z (by omega)).1; unfold pz; omega
    have Am := su_mono (b := bi s) (I 12 0).toNatClampNeg xw pp
    rw [← hA] at Am
    obtain ⟨A0, A1⟩ := pz_su hp (b := bi s) (n := (I 12 0).toNatClampNeg) (by omega)
    rw [← hA] at A0 A1
    have hA1 : 0 < al.toInt := by
      have : ¬ al.toInt = 0 := fun z => nz (Int64.toInt_inj.mp (z.trans (show (0 : Int) = (0 : Int64).toInt by decide)))
      omega
    have l0 := sh_nn hA1 N0 Am h3
    refine And.intro (fun q => ?_) (fun q => ?_)
    · have qx : x.toInt = (I 12 0).toInt := by rw [mi_le] at q; omega
      have ex : x.toNatClampNeg = (I 12 0).toNatClampNeg := by omega
      rw [ex, ← hA] at h4
      rw [ex] at h5
      have h9 := sh_end hA1 h4 (Int.natCast_nonneg _)
      refine And.intro ?_ trivial
      exact K _ _ _ _ h5 l0 h9 (by omega)
    · have qx : x.toInt < (I 12 0).toInt := by rw [mi_le] at q; omega
      have e1 := mi_incl qx
      have k1 := mi_cl (x := x + 1) (by omega)
      have ek : (x + 1).toNatClampNeg = x.toNatClampNeg + 1 := by omega
      have B : vp_in x 8 := vp_in_iff.mpr ⟨by omega, by omega⟩
      have G0 : 0 ≤ (x + 1).toInt := by omega
      have G1 : (x + 1).toInt ≤ (I 12 0).toInt := by omega
      have G9 : ((I 12 0).toInt - (x + 1).toInt).toNat < k := by omega
      have GF : 80 * k + F ≤ fu + 2 := by omega
      have es : su (bi s) (pz I) (x + 1).toNatClampNeg = su (bi s) (pz I) x.toNatClampNeg + (bif bi s x.toNatClampNeg then pz I x.toNatClampNeg else 0) := by rw [ek]; rfl
      have ec : ct (bi s) (x + 1).toNatClampNeg = ct (bi s) x.toNatClampNeg + (bif bi s x.toNatClampNeg then 1 else 0) := by rw [ek]; rfl
      refine And.intro (fun q2 => ?_) (fun q2 => ?_)
      · have hb := bi_f h0 q2
        rw [hb] at es ec
        have es : su (bi s) (pz I) (x + 1).toNatClampNeg = su (bi s) (pz I) x.toNatClampNeg + 0 := es
        have ec : ct (bi s) (x + 1).toNatClampNeg = ct (bi s) x.toNatClampNeg := ec
        rw [Int.add_zero] at es
        have G3 := h3
        have G4 := h4
        rw [← es] at G3
        rw [← es, ← ec] at G4
        have G5 : pq2 s N (x + 1).toNatClampNeg (J0 63) (J 63) := ⟨fun z hz => h5.1 z (by omega), h5.2.1, fun z hz h0z => by
          by_cases z1 : z < x.toNatClampNeg
          · exact h5.2.2 z z1 h0z
          · rw [h5.1 z (by omega), h0z]; exact ⟨Int.le_refl _, N0⟩⟩
        refine And.intro ?_ trivial
        exact ih _ _ _ _ G0 G1 h2 G3 G4 G5 G9 (by omega)
      · have hb := bi_t h0 q2
        rw [hb] at es ec
        have es : su (bi s) (pz I) (x + 1).toNatClampNeg = su (bi s) (pz I) x.toNatClampNeg + pz I x.toNatClampNeg := es
        have ec : ct (bi s) (x + 1).toNatClampNeg = ct (bi s) x.toNatClampNeg + 1 := ec
        have Am2 := su_mono (b := bi s) (I 12 0).toNatClampNeg (show (x + 1).toNatClampNeg ≤ (I 12 0).toNatClampNeg by omega) pp
        rw [← hA, es] at Am2
        obtain ⟨u0, u1⟩ := pz_su hp (b := bi s) (n := x.toNatClampNeg) (by omega)
        obtain ⟨p0, p1⟩ := hp x.toNatClampNeg (by omega)
        have pe : pz I x.toNatClampNeg = (I 51 x.toNatClampNeg).toInt := rfl
        obtain ⟨pv, hpv⟩ : ∃ v, v = I 51 x.toNatClampNeg := ⟨_, rfl⟩
        rw [← hpv] at p0 p1 pe
        have np0 : 0 ≤ N.toInt * pv.toInt := Int.mul_nonneg N0 (by omega)
        have np1 : N.toInt * pv.toInt ≤ 1000000000 * 1000 := Int.mul_le_mul N1 p1 (by omega) (by omega)
        have em : (N * pv.toInt64).toInt = N.toInt * pv.toInt := by rw [mi_Lmul (by rw [mi_L]; omega) (by rw [mi_L]; omega), mi_L]
        have eq : (N * pv.toInt64 / al).toInt = N.toInt * pv.toInt / al.toInt := by rw [mi_Ldiv (by rw [em]; exact np0) hA1, em]
        obtain ⟨qv, hqv⟩ : ∃ v, v = N * pv.toInt64 / al := ⟨_, rfl⟩
        rw [← hqv] at eq
        obtain ⟨s1, s2, s3, s4⟩ := sh_step hA1 N0 (show 0 ≤ pv.toInt by omega) (show pv.toInt ≤ al.toInt by omega) eq h3 h4
        have el : (lf - qv).toInt = lf.toInt - qv.toInt := mi_Lsub (by omega) (by omega)
        have eE : al.toInt * (N.toInt - (lf - qv).toInt) = al.toInt * (N.toInt - lf.toInt) + al.toInt * qv.toInt := by rw [el, ← Int.mul_add]; congr 1; omega
        have G2 : (lf - qv).toInt ≤ N.toInt := by omega
        have G3 : al.toInt * (N.toInt - (lf - qv).toInt) ≤ N.toInt * su (bi s) (pz I) (x + 1).toNatClampNeg := by rw [eE, es, pe]; exact s3
        have G4 : N.toInt * su (bi s) (pz I) (x + 1).toNatClampNeg - al.toInt * (N.toInt - (lf - qv).toInt) ≤ (al.toInt - 1) * (ct (bi s) (x + 1).toNatClampNeg : Int) := by rw [eE, es, pe, ec]; exact s4
        have G5 : pq2 s N (x + 1).toNatClampNeg (J0 63) (vp_updL (J 63) x.toNatClampNeg (J 63 x.toNatClampNeg + qv)) := by
          refine ⟨fun z hz => ?_, fun z hz => ?_, fun z hz h0z => ?_⟩
          · unfold vp_updL
            rw [if_neg (by omega)]
            exact h5.1 z (by omega)
          · unfold vp_updL
            have : ¬ z = x.toNatClampNeg := fun e => by rw [e, hb] at hz; cases hz
            rw [if_neg this]
            exact h5.2.1 z hz
          · unfold vp_updL
            by_cases z1 : z = x.toNatClampNeg
            · rw [if_pos z1]
              have j0 : (J 63 x.toNatClampNeg).toInt = 0 := by rw [h5.1 _ (Nat.le_refl _), ← z1]; exact h0z
              rw [mi_Ladd (by rw [j0]; omega) (by rw [j0]; omega), j0]
              exact ⟨by omega, by omega⟩
            · rw [if_neg z1]
              exact h5.2.2 z (by omega) h0z
        subst hqv
        subst hpv
        refine And.intro B ?_
        refine And.intro B ?_
        refine And.intro nz ?_
        refine And.intro B ?_
        refine And.intro B ?_
        refine And.intro nz ?_
        refine And.intro ?_ trivial
        exact ih _ _ _ _ G0 G1 G2 G3 G4 G5 G9 (by clear G2 G3 G4 el eE eq em; omega)
