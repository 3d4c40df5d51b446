def lw_th : List Nat := [156, 179, 202, 245, 278, 311, 334, 377, 436, 479, 522, 545, 608, 621, 684, 727, 760, 783, 846, 869, 892, 915, 948, 971, 1014, 1037, 1090, 1153]
def lw_sh (L : Nat) (x : Int32) (I : mv_I) (J : mv_J) : mv_K := fun pc ls st I' J' => (pc = 1159 ∨ (pc ∈ lw_th ∧ x.toInt + 6 ≤ L)) ∧ ls = [some (.inr (.inr 999)), some (.inr (.inr 0)), some (.inr (.inr 12)), some (.inl x)] ∧ st = [] ∧ I' = I ∧ J' = J
set_option maxHeartbeats 1000000 in
theorem lc_h {d L : Nat} {xs : Nat → Int32} {x : Int32} {I : mv_I} {J : mv_J} (h0 : 0 ≤ x.toInt) (hL : L ≤ 3072) : mv_wp (mv_wpM mv_tab mv_sh d) mv_sh (some (L, xs)) tbL_h flL csL 1 (lw_sh L x I J) (fun r _ _ => r = some (.inl 1)) 60 18 [some (.inr (.inr 999)), some (.inr (.inr 0)), some (.inr (.inr 12)), some (.inl x)] [] I J := by
  have c6 : (6 : Int32).toInt = 6 := by decide
  have eN : (nI L).toInt = L := nI_toInt (by omega)
  have eL : (nI L - 6).toInt = (L : Int) - 6 := by rw [mi_sub (by rw [eN, c6]; omega) (by rw [eN, c6]; omega), eN, c6]
  refine And.intro (fun q => ?_) (fun q => ?_)
  · exact ⟨Or.inl rfl, rfl, rfl, rfl, rfl⟩
  · have hx6 : x.toInt + 6 ≤ L := by rw [mi_lt, eL] at q; omega
    refine And.intro (vp_in_iff.mpr ⟨h0, by omega⟩) ?_
    refine And.intro (fun q => ⟨Or.inr ⟨by decide, hx6⟩, rfl, rfl, rfl, rfl⟩) ?_
    refine And.intro (fun q => ⟨Or.inr ⟨by decide, hx6⟩, rfl, rfl, rfl, rfl⟩) ?_
    refine And.intro (fun q => ⟨Or.inr ⟨by decide, hx6⟩, rfl, rfl, rfl, rfl⟩) ?_
    refine And.intro (fun q => ⟨Or.inr ⟨by decide, hx6⟩, rfl, rfl, rfl, rfl⟩) ?_
    refine And.intro (fun q => ⟨Or.inr ⟨by decide, hx6⟩, rfl, rfl, rfl, rfl⟩) ?_
    refine And.intro (fun q => ⟨Or.inr ⟨by decide, hx6⟩, rfl, rfl, rfl, rfl⟩) ?_
    refine And.intro (fun q => ⟨Or.inr ⟨by decide, hx6⟩, rfl, rfl, rfl, rfl⟩) ?_
    refine And.intro (fun q => ⟨Or.inr ⟨by decide, hx6⟩, rfl, rfl, rfl, rfl⟩) ?_
    refine And.intro (fun q => ⟨Or.inr ⟨by decide, hx6⟩, rfl, rfl, rfl, rfl⟩) ?_
    refine And.intro (fun q => ⟨Or.inr ⟨by decide, hx6⟩, rfl, rfl, rfl, rfl⟩) ?_
    refine And.intro (fun q => ⟨Or.inr ⟨by decide, hx6⟩, rfl, rfl, rfl, rfl⟩) ?_
    refine And.intro (fun q => ⟨Or.inr ⟨by decide, hx6⟩, rfl, rfl, rfl, rfl⟩) ?_
    refine And.intro (fun q => ⟨Or.inr ⟨by decide, hx6⟩, rfl, rfl, rfl, rfl⟩) ?_
    refine And.intro (fun q => ⟨Or.inr ⟨by decide, hx6⟩, rfl, rfl, rfl, rfl⟩) ?_
    refine And.intro (fun q => ⟨Or.inr ⟨by decide, hx6⟩, rfl, rfl, rfl, rfl⟩) ?_
    refine And.intro (fun q => ⟨Or.inr ⟨by decide, hx6⟩, rfl, rfl, rfl, rfl⟩) ?_
    refine And.intro (fun q => ⟨Or.inr ⟨by decide, hx6⟩, rfl, rfl, rfl, rfl⟩) ?_
    refine And.intro (fun q => ⟨Or.inr ⟨by decide, hx6⟩, rfl, rfl, rfl, rfl⟩) ?_
    refine And.intro (fun q => ⟨Or.inr ⟨by decide, hx6⟩, rfl, rfl, rfl, rfl⟩) ?_
    refine And.intro (fun q => ⟨Or.inr ⟨by decide, hx6⟩, rfl, rfl, rfl, rfl⟩) ?_
    refine And.intro (fun q => ⟨Or.inr ⟨by decide, hx6⟩, rfl, rfl, rfl, rfl⟩) ?_
    refine And.intro (fun q => ⟨Or.inr ⟨by decide, hx6⟩, rfl, rfl, rfl, rfl⟩) ?_
    refine And.intro (fun q => ⟨Or.inr ⟨by decide, hx6⟩, rfl, rfl, rfl, rfl⟩) ?_
    refine And.intro (fun q => ⟨Or.inr ⟨by decide, hx6⟩, rfl, rfl, rfl, rfl⟩) ?_
    refine And.intro (fun q => ⟨Or.inr ⟨by decide, hx6⟩, rfl, rfl, rfl, rfl⟩) ?_
    refine And.intro (fun q => ⟨Or.inr ⟨by decide, hx6⟩, rfl, rfl, rfl, rfl⟩) ?_
    refine And.intro (fun q => ⟨Or.inr ⟨by decide, hx6⟩, rfl, rfl, rfl, rfl⟩) ?_
    refine And.intro (fun q => ⟨Or.inr ⟨by decide, hx6⟩, rfl, rfl, rfl, rfl⟩) ?_
    trivial
theorem lc_df {d L : Nat} {xs : Nat → Int32} {x : Int32} {I : mv_I} {J : mv_J} (sc : SC I) (sm : SM I) (hR : LR I) : mv_wp (mv_wpM mv_tab mv_sh d) mv_sh (some (L, xs)) tbL_e flL csL 1 (lw_s x) (fun r _ _ => r = some (.inl 1)) 60 1153 [some (.inr (.inr 999)), some (.inr (.inr 0)), some (.inr (.inr 12)), some (.inl x)] [] I J := ⟨rfl, rfl, rfl, sc, sm, hR⟩
theorem lc_ex {d L : Nat} {xs : Nat → Int32} {x : Int32} {I : mv_I} {J : mv_J} : mv_wp (mv_wpM mv_tab mv_sh d) mv_sh (some (L, xs)) tbL_e flL csL 1 (fun _ _ _ _ _ => False) (fun r _ _ => r = some (.inl 1)) 60 1159 [some (.inr (.inr 999)), some (.inr (.inr 0)), some (.inr (.inr 12)), some (.inl x)] [] I J := rfl
