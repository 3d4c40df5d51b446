set_option maxHeartbeats 1000000 in
theorem F_copy {d : Nat} (hd : 4 ≤ d) (a i b j n : Int32) {I : mv_I} {J : mv_J} {Q : mv_Q} (sc : SC I) (h : ∀ (r : Int32) (I' : mv_I), SC I' → mg_f2 [47, 48, 49, 50] [] I I' → sp_copy a i b j n I r I' → Q (some (.inl r)) I' J) : mv_wpM mv_tab mv_sh d 78 [.inr (.inr 0), .inl a, .inl i, .inl b, .inl j, .inl n] I J Q := by
  obtain ⟨d, rfl⟩ : ∃ e, d = e + 1 := ⟨d - 1, by omega⟩
  refine (show ∃ fu9, mv_wp (mv_wpM mv_tab mv_sh d) mv_sh none tbX7_copy flX7 csX7 1 (fun _ _ _ _ _ => False) Q fu9 0 [some (.inr (.inr 0)), some (.inl a), some (.inl i), some (.inl b), some (.inl j), some (.inl n), none, none] [] I J from ?_)
  refine ⟨120, ?_⟩
  obtain ⟨s1, s2, s3, s4, s5, s6, s7, s8, s9, s10, s11, s12⟩ := id sc
  refine c_isSheet (by omega) a (fun p1 => ?_) (fun p1 => ?_)
  · first | refine And.intro (fun z => absurd z (by decide)) (fun _ => ?_) | refine And.intro (fun _ => ?_) (fun z => absurd z (by decide))
    have B : vp_in a 4 := vp_in_iff.mpr ⟨(mg_le p1).1, by have := (mg_le p1).2; have : (3 : Int32).toInt = 3 := (by decide); omega⟩
    refine c_isSheet (by omega) b (fun p2 => ?_) (fun p2 => ?_)
    · first | refine And.intro (fun z => absurd z (by decide)) (fun _ => ?_) | refine And.intro (fun _ => ?_) (fun z => absurd z (by decide))
      have B2 : vp_in b 4 := vp_in_iff.mpr ⟨(mg_le p2).1, by have := (mg_le p2).2; have : (3 : Int32).toInt = 3 := (by decide); omega⟩
      refine And.intro B (And.intro (fun e => ?_) (And.intro (fun e => ?_) (And.intro (fun e => ?_) (fun e => ?_))))
      · refine And.intro B2 (And.intro (fun e2 => ?_) (And.intro (fun e2 => ?_) (And.intro (fun e2 => ?_) (fun e2 => ?_))))
        · refine s_isNothing8 (by omega) (fun n1 => ?_) (fun n1 => ?_)
          · first | refine And.intro (fun z => absurd z (by decide)) (fun _ => ?_) | refine And.intro (fun _ => ?_) (fun z => absurd z (by decide))
            exact h _ _ sc mg_f2.rf (Or.inr ⟨0, 0, by decide, by decide, mg_eq (by decide) e, mg_eq (by decide) e2, Or.inl ⟨Or.inl n1, rfl, rfl⟩⟩)
          · first | refine And.intro (fun z => absurd z (by decide)) (fun _ => ?_) | refine And.intro (fun _ => ?_) (fun z => absurd z (by decide))
            refine s_isNothing8 (by omega) (fun n2 => ?_) (fun n2 => ?_)
            · first | refine And.intro (fun z => absurd z (by decide)) (fun _ => ?_) | refine And.intro (fun _ => ?_) (fun z => absurd z (by decide))
              exact h _ _ sc mg_f2.rf (Or.inr ⟨0, 0, by decide, by decide, mg_eq (by decide) e, mg_eq (by decide) e2, Or.inl ⟨Or.inr n2, rfl, rfl⟩⟩)
            · first | refine And.intro (fun z => absurd z (by decide)) (fun _ => ?_) | refine And.intro (fun _ => ?_) (fun z => absurd z (by decide))
              have nn : ¬ (I 8 1 = -1 ∨ I 8 1 = -1) := fun z => z.elim n1 n2
              refine And.intro (fun q1 => ?_) (fun q1 => ?_)
              · refine s_hasItems8 (by omega) i n (fun y1 => ?_) (fun y1 => ?_)
                · first | refine And.intro (fun z => absurd z (by decide)) (fun _ => ?_) | refine And.intro (fun _ => ?_) (fun z => absurd z (by decide))
                  refine s_hasItems8 (by omega) j n (fun y2 => ?_) (fun y2 => ?_)
                  · first | refine And.intro (fun z => absurd z (by decide)) (fun _ => ?_) | refine And.intro (fun _ => ?_) (fun z => absurd z (by decide))
                    have z1 := mg_has s9.2 y1
                    have z2 := mg_has s9.2 y2
                    have w1 := s9.2.2
                    have w2 := s9.2.2
                    have k1 := mi_cl z1.1
                    have k2 := mi_cl z2.1
                    have k3 := mi_cl z1.2.1
                    have f : mg_f2 [47, 48, 49, 50] [] I (va_up I 47 (va_cpy (I 47) (I 47) i.toNatClampNeg j.toNatClampNeg n.toNatClampNeg)) := mg_f2.up mg_f2.rf rfl
                    refine And.intro (fun z => by rw [mi_lt] at z; have := mi_l; omega) (And.intro (fun z => by rw [mi_lt] at z; have := mi_l; omega) (And.intro (fun z => by rw [mi_lt] at z; have := mi_l; omega) (And.intro (show i.toNatClampNeg + n.toNatClampNeg ≤ 60 by omega) (And.intro (show j.toNatClampNeg + n.toNatClampNeg ≤ 60 by omega) ?_))))
                    exact h _ _ ⟨(show rg (_ : Int32) _ _ by rw [f 0 7 rfl rfl]; exact s1), (show rg (_ : Int32) _ _ by rw [f 1 2 rfl rfl]; exact s2), (show rg (_ : Int32) _ _ by rw [f 1 9 rfl rfl]; exact s3), (show rg (_ : Int32) _ _ by rw [f 2 2 rfl rfl]; exact s4), (show rg (_ : Int32) _ _ by rw [f 3 6 rfl rfl]; exact s5), (fun j => (by rw [f 25 j rfl rfl]; exact s6 j)), (s7.kp (f 4 7 rfl rfl) (f2_fn (c := 31) f rfl (fun _ => rfl)) (f2_fn (c := 32) f rfl (fun _ => rfl)) (f2_fn (c := 33) f rfl (fun _ => rfl))), (s8.kp (f 4 7 rfl rfl) (f2_fn (c := 45) f rfl (fun _ => rfl)) (f2_fn (c := 46) f rfl (fun _ => rfl))), ⟨(show rg (_ : Int32) _ _ by rw [f 8 1 rfl rfl]; exact s9.1), (show rg (_ : Int32) _ _ by rw [f 8 2 rfl rfl]; exact s9.2)⟩, ⟨(show rg (_ : Int32) _ _ by rw [f 9 1 rfl rfl]; exact s10.1), (show rg (_ : Int32) _ _ by rw [f 9 2 rfl rfl]; exact s10.2)⟩, ⟨(show rg (_ : Int32) _ _ by rw [f 10 1 rfl rfl]; exact s11.1), (show rg (_ : Int32) _ _ by rw [f 10 2 rfl rfl]; exact s11.2)⟩, ⟨(show rg (_ : Int32) _ _ by rw [f 11 1 rfl rfl]; exact s12.1), (show rg (_ : Int32) _ _ by rw [f 11 2 rfl rfl]; exact s12.2)⟩⟩ f (Or.inr ⟨0, 0, by decide, by decide, mg_eq (by decide) e, mg_eq (by decide) e2, Or.inr (Or.inr (Or.inr ⟨nn, q1, ⟨y1, y2⟩, rfl, rfl⟩))⟩)
                  · first | refine And.intro (fun z => absurd z (by decide)) (fun _ => ?_) | refine And.intro (fun _ => ?_) (fun z => absurd z (by decide))
                    exact h _ _ sc mg_f2.rf (Or.inr ⟨0, 0, by decide, by decide, mg_eq (by decide) e, mg_eq (by decide) e2, Or.inr (Or.inr (Or.inl ⟨nn, q1, fun z => y2 z.2, rfl, rfl⟩))⟩)
                · first | refine And.intro (fun z => absurd z (by decide)) (fun _ => ?_) | refine And.intro (fun _ => ?_) (fun z => absurd z (by decide))
                  exact h _ _ sc mg_f2.rf (Or.inr ⟨0, 0, by decide, by decide, mg_eq (by decide) e, mg_eq (by decide) e2, Or.inr (Or.inr (Or.inl ⟨nn, q1, fun z => y1 z.1, rfl, rfl⟩))⟩)
              · exact h _ _ sc mg_f2.rf (Or.inr ⟨0, 0, by decide, by decide, mg_eq (by decide) e, mg_eq (by decide) e2, Or.inr (Or.inl ⟨nn, q1, rfl, rfl⟩)⟩)
        · refine s_isNothing8 (by omega) (fun n1 => ?_) (fun n1 => ?_)
          · first | refine And.intro (fun z => absurd z (by decide)) (fun _ => ?_) | refine And.intro (fun _ => ?_) (fun z => absurd z (by decide))
            exact h _ _ sc mg_f2.rf (Or.inr ⟨0, 1, by decide, by decide, mg_eq (by decide) e, mg_eq (by decide) e2, Or.inl ⟨Or.inl n1, rfl, rfl⟩⟩)
          · first | refine And.intro (fun z => absurd z (by decide)) (fun _ => ?_) | refine And.intro (fun _ => ?_) (fun z => absurd z (by decide))
            refine s_isNothing9 (by omega) (fun n2 => ?_) (fun n2 => ?_)
            · first | refine And.intro (fun z => absurd z (by decide)) (fun _ => ?_) | refine And.intro (fun _ => ?_) (fun z => absurd z (by decide))
              exact h _ _ sc mg_f2.rf (Or.inr ⟨0, 1, by decide, by decide, mg_eq (by decide) e, mg_eq (by decide) e2, Or.inl ⟨Or.inr n2, rfl, rfl⟩⟩)
            · first | refine And.intro (fun z => absurd z (by decide)) (fun _ => ?_) | refine And.intro (fun _ => ?_) (fun z => absurd z (by decide))
              have nn : ¬ (I 8 1 = -1 ∨ I 9 1 = -1) := fun z => z.elim n1 n2
              refine And.intro (fun q1 => ?_) (fun q1 => ?_)
              · refine s_hasItems8 (by omega) i n (fun y1 => ?_) (fun y1 => ?_)
                · first | refine And.intro (fun z => absurd z (by decide)) (fun _ => ?_) | refine And.intro (fun _ => ?_) (fun z => absurd z (by decide))
                  refine s_hasItems9 (by omega) j n (fun y2 => ?_) (fun y2 => ?_)
                  · first | refine And.intro (fun z => absurd z (by decide)) (fun _ => ?_) | refine And.intro (fun _ => ?_) (fun z => absurd z (by decide))
                    have z1 := mg_has s9.2 y1
                    have z2 := mg_has s10.2 y2
                    have w1 := s9.2.2
                    have w2 := s10.2.2
                    have k1 := mi_cl z1.1
                    have k2 := mi_cl z2.1
                    have k3 := mi_cl z1.2.1
                    have f : mg_f2 [47, 48, 49, 50] [] I (va_up I 48 (va_cpy (I 47) (I 48) i.toNatClampNeg j.toNatClampNeg n.toNatClampNeg)) := mg_f2.up mg_f2.rf rfl
                    refine And.intro (fun z => by rw [mi_lt] at z; have := mi_l; omega) (And.intro (fun z => by rw [mi_lt] at z; have := mi_l; omega) (And.intro (fun z => by rw [mi_lt] at z; have := mi_l; omega) (And.intro (show i.toNatClampNeg + n.toNatClampNeg ≤ 60 by omega) (And.intro (show j.toNatClampNeg + n.toNatClampNeg ≤ 60 by omega) ?_))))
                    exact h _ _ ⟨(show rg (_ : Int32) _ _ by rw [f 0 7 rfl rfl]; exact s1), (show rg (_ : Int32) _ _ by rw [f 1 2 rfl rfl]; exact s2), (show rg (_ : Int32) _ _ by rw [f 1 9 rfl rfl]; exact s3), (show rg (_ : Int32) _ _ by rw [f 2 2 rfl rfl]; exact s4), (show rg (_ : Int32) _ _ by rw [f 3 6 rfl rfl]; exact s5), (fun j => (by rw [f 25 j rfl rfl]; exact s6 j)), (s7.kp (f 4 7 rfl rfl) (f2_fn (c := 31) f rfl (fun _ => rfl)) (f2_fn (c := 32) f rfl (fun _ => rfl)) (f2_fn (c := 33) f rfl (fun _ => rfl))), (s8.kp (f 4 7 rfl rfl) (f2_fn (c := 45) f rfl (fun _ => rfl)) (f2_fn (c := 46) f rfl (fun _ => rfl))), ⟨(show rg (_ : Int32) _ _ by rw [f 8 1 rfl rfl]; exact s9.1), (show rg (_ : Int32) _ _ by rw [f 8 2 rfl rfl]; exact s9.2)⟩, ⟨(show rg (_ : Int32) _ _ by rw [f 9 1 rfl rfl]; exact s10.1), (show rg (_ : Int32) _ _ by rw [f 9 2 rfl rfl]; exact s10.2)⟩, ⟨(show rg (_ : Int32) _ _ by rw [f 10 1 rfl rfl]; exact s11.1), (show rg (_ : Int32) _ _ by rw [f 10 2 rfl rfl]; exact s11.2)⟩, ⟨(show rg (_ : Int32) _ _ by rw [f 11 1 rfl rfl]; exact s12.1), (show rg (_ : Int32) _ _ by rw [f 11 2 rfl rfl]; exact s12.2)⟩⟩ f (Or.inr ⟨0, 1, by decide, by decide, mg_eq (by decide) e, mg_eq (by decide) e2, Or.inr (Or.inr (Or.inr ⟨nn, q1, ⟨y1, y2⟩, rfl, rfl⟩))⟩)
                  · first | refine And.intro (fun z => absurd z (by decide)) (fun _ => ?_) | refine And.intro (fun _ => ?_) (fun z => absurd z (by decide))
                    exact h _ _ sc mg_f2.rf (Or.inr ⟨0, 1, by decide, by decide, mg_eq (by decide) e, mg_eq (by decide) e2, Or.inr (Or.inr (Or.inl ⟨nn, q1, fun z => y2 z.2, rfl, rfl⟩))⟩)
                · first | refine And.intro (fun z => absurd z (by decide)) (fun _ => ?_) | refine And.intro (fun _ => ?_) (fun z => absurd z (by decide))
                  exact h _ _ sc mg_f2.rf (Or.inr ⟨0, 1, by decide, by decide, mg_eq (by decide) e, mg_eq (by decide) e2, Or.inr (Or.inr (Or.inl ⟨nn, q1, fun z => y1 z.1, rfl, rfl⟩))⟩)
              · exact h _ _ sc mg_f2.rf (Or.inr ⟨0, 1, by decide, by decide, mg_eq (by decide) e, mg_eq (by decide) e2, Or.inr (Or.inl ⟨nn, q1, rfl, rfl⟩)⟩)
        · refine s_isNothing8 (by omega) (fun n1 => ?_) (fun n1 => ?_)
          · first | refine And.intro (fun z => absurd z (by decide)) (fun _ => ?_) | refine And.intro (fun _ => ?_) (fun z => absurd z (by decide))
            exact h _ _ sc mg_f2.rf (Or.inr ⟨0, 2, by decide, by decide, mg_eq (by decide) e, mg_eq (by decide) e2, Or.inl ⟨Or.inl n1, rfl, rfl⟩⟩)
          · first | refine And.intro (fun z => absurd z (by decide)) (fun _ => ?_) | refine And.intro (fun _ => ?_) (fun z => absurd z (by decide))
            refine s_isNothing10 (by omega) (fun n2 => ?_) (fun n2 => ?_)
            · first | refine And.intro (fun z => absurd z (by decide)) (fun _ => ?_) | refine And.intro (fun _ => ?_) (fun z => absurd z (by decide))
              exact h _ _ sc mg_f2.rf (Or.inr ⟨0, 2, by decide, by decide, mg_eq (by decide) e, mg_eq (by decide) e2, Or.inl ⟨Or.inr n2, rfl, rfl⟩⟩)
            · first | refine And.intro (fun z => absurd z (by decide)) (fun _ => ?_) | refine And.intro (fun _ => ?_) (fun z => absurd z (by decide))
              have nn : ¬ (I 8 1 = -1 ∨ I 10 1 = -1) := fun z => z.elim n1 n2
              refine And.intro (fun q1 => ?_) (fun q1 => ?_)
              · refine s_hasItems8 (by omega) i n (fun y1 => ?_) (fun y1 => ?_)
                · first | refine And.intro (fun z => absurd z (by decide)) (fun _ => ?_) | refine And.intro (fun _ => ?_) (fun z => absurd z (by decide))
                  refine s_hasItems10 (by omega) j n (fun y2 => ?_) (fun y2 => ?_)
                  · first | refine And.intro (fun z => absurd z (by decide)) (fun _ => ?_) | refine And.intro (fun _ => ?_) (fun z => absurd z (by decide))
                    have z1 := mg_has s9.2 y1
                    have z2 := mg_has s11.2 y2
                    have w1 := s9.2.2
                    have w2 := s11.2.2
                    have k1 := mi_cl z1.1
                    have k2 := mi_cl z2.1
                    have k3 := mi_cl z1.2.1
                    have f : mg_f2 [47, 48, 49, 50] [] I (va_up I 49 (va_cpy (I 47) (I 49) i.toNatClampNeg j.toNatClampNeg n.toNatClampNeg)) := mg_f2.up mg_f2.rf rfl
                    refine And.intro (fun z => by rw [mi_lt] at z; have := mi_l; omega) (And.intro (fun z => by rw [mi_lt] at z; have := mi_l; omega) (And.intro (fun z => by rw [mi_lt] at z; have := mi_l; omega) (And.intro (show i.toNatClampNeg + n.toNatClampNeg ≤ 60 by omega) (And.intro (show j.toNatClampNeg + n.toNatClampNeg ≤ 60 by omega) ?_))))
                    exact h _ _ ⟨(show rg (_ : Int32) _ _ by rw [f 0 7 rfl rfl]; exact s1), (show rg (_ : Int32) _ _ by rw [f 1 2 rfl rfl]; exact s2), (show rg (_ : Int32) _ _ by rw [f 1 9 rfl rfl]; exact s3), (show rg (_ : Int32) _ _ by rw [f 2 2 rfl rfl]; exact s4), (show rg (_ : Int32) _ _ by rw [f 3 6 rfl rfl]; exact s5), (fun j => (by rw [f 25 j rfl rfl]; exact s6 j)), (s7.kp (f 4 7 rfl rfl) (f2_fn (c := 31) f rfl (fun _ => rfl)) (f2_fn (c := 32) f rfl (fun _ => rfl)) (f2_fn (c := 33) f rfl (fun _ => rfl))), (s8.kp (f 4 7 rfl rfl) (f2_fn (c := 45) f rfl (fun _ => rfl)) (f2_fn (c := 46) f rfl (fun _ => rfl))), ⟨(show rg (_ : Int32) _ _ by rw [f 8 1 rfl rfl]; exact s9.1), (show rg (_ : Int32) _ _ by rw [f 8 2 rfl rfl]; exact s9.2)⟩, ⟨(show rg (_ : Int32) _ _ by rw [f 9 1 rfl rfl]; exact s10.1), (show rg (_ : Int32) _ _ by rw [f 9 2 rfl rfl]; exact s10.2)⟩, ⟨(show rg (_ : Int32) _ _ by rw [f 10 1 rfl rfl]; exact s11.1), (show rg (_ : Int32) _ _ by rw [f 10 2 rfl rfl]; exact s11.2)⟩, ⟨(show rg (_ : Int32) _ _ by rw [f 11 1 rfl rfl]; exact s12.1), (show rg (_ : Int32) _ _ by rw [f 11 2 rfl rfl]; exact s12.2)⟩⟩ f (Or.inr ⟨0, 2, by decide, by decide, mg_eq (by decide) e, mg_eq (by decide) e2, Or.inr (Or.inr (Or.inr ⟨nn, q1, ⟨y1, y2⟩, rfl, rfl⟩))⟩)
                  · first | refine And.intro (fun z => absurd z (by decide)) (fun _ => ?_) | refine And.intro (fun _ => ?_) (fun z => absurd z (by decide))
                    exact h _ _ sc mg_f2.rf (Or.inr ⟨0, 2, by decide, by decide, mg_eq (by decide) e, mg_eq (by decide) e2, Or.inr (Or.inr (Or.inl ⟨nn, q1, fun z => y2 z.2, rfl, rfl⟩))⟩)
                · first | refine And.intro (fun z => absurd z (by decide)) (fun _ => ?_) | refine And.intro (fun _ => ?_) (fun z => absurd z (by decide))
                  exact h _ _ sc mg_f2.rf (Or.inr ⟨0, 2, by decide, by decide, mg_eq (by decide) e, mg_eq (by decide) e2, Or.inr (Or.inr (Or.inl ⟨nn, q1, fun z => y1 z.1, rfl, rfl⟩))⟩)
              · exact h _ _ sc mg_f2.rf (Or.inr ⟨0, 2, by decide, by decide, mg_eq (by decide) e, mg_eq (by decide) e2, Or.inr (Or.inl ⟨nn, q1, rfl, rfl⟩)⟩)
        · refine s_isNothing8 (by omega) (fun n1 => ?_) (fun n1 => ?_)
          · first | refine And.intro (fun z => absurd z (by decide)) (fun _ => ?_) | refine And.intro (fun _ => ?_) (fun z => absurd z (by decide))
            exact h _ _ sc mg_f2.rf (Or.inr ⟨0, 3, by decide, by decide, mg_eq (by decide) e, mg_eq (by decide) e2, Or.inl ⟨Or.inl n1, rfl, rfl⟩⟩)
          · first | refine And.intro (fun z => absurd z (by decide)) (fun _ => ?_) | refine And.intro (fun _ => ?_) (fun z => absurd z (by decide))
            refine s_isNothing11 (by omega) (fun n2 => ?_) (fun n2 => ?_)
            · first | refine And.intro (fun z => absurd z (by decide)) (fun _ => ?_) | refine And.intro (fun _ => ?_) (fun z => absurd z (by decide))
              exact h _ _ sc mg_f2.rf (Or.inr ⟨0, 3, by decide, by decide, mg_eq (by decide) e, mg_eq (by decide) e2, Or.inl ⟨Or.inr n2, rfl, rfl⟩⟩)
            · first | refine And.intro (fun z => absurd z (by decide)) (fun _ => ?_) | refine And.intro (fun _ => ?_) (fun z => absurd z (by decide))
              have nn : ¬ (I 8 1 = -1 ∨ I 11 1 = -1) := fun z => z.elim n1 n2
              refine And.intro (fun q1 => ?_) (fun q1 => ?_)
              · refine s_hasItems8 (by omega) i n (fun y1 => ?_) (fun y1 => ?_)
                · first | refine And.intro (fun z => absurd z (by decide)) (fun _ => ?_) | refine And.intro (fun _ => ?_) (fun z => absurd z (by decide))
                  refine s_hasItems11 (by omega) j n (fun y2 => ?_) (fun y2 => ?_)
                  · first | refine And.intro (fun z => absurd z (by decide)) (fun _ => ?_) | refine And.intro (fun _ => ?_) (fun z => absurd z (by decide))
                    have z1 := mg_has s9.2 y1
                    have z2 := mg_has s12.2 y2
                    have w1 := s9.2.2
                    have w2 := s12.2.2
                    have k1 := mi_cl z1.1
                    have k2 := mi_cl z2.1
                    have k3 := mi_cl z1.2.1
                    have f : mg_f2 [47, 48, 49, 50] [] I (va_up I 50 (va_cpy (I 47) (I 50) i.toNatClampNeg j.toNatClampNeg n.toNatClampNeg)) := mg_f2.up mg_f2.rf rfl
                    refine And.intro (fun z => by rw [mi_lt] at z; have := mi_l; omega) (And.intro (fun z => by rw [mi_lt] at z; have := mi_l; omega) (And.intro (fun z => by rw [mi_lt] at z; have := mi_l; omega) (And.intro (show i.toNatClampNeg + n.toNatClampNeg ≤ 60 by omega) (And.intro (show j.toNatClampNeg + n.toNatClampNeg ≤ 60 by omega) ?_))))
                    exact h _ _ ⟨(show rg (_ : Int32) _ _ by rw [f 0 7 rfl rfl]; exact s1), (show rg (_ : Int32) _ _ by rw [f 1 2 rfl rfl]; exact s2), (show rg (_ : Int32) _ _ by rw [f 1 9 rfl rfl]; exact s3), (show rg (_ : Int32) _ _ by rw [f 2 2 rfl rfl]; exact s4), (show rg (_ : Int32) _ _ by rw [f 3 6 rfl rfl]; exact s5), (fun j => (by rw [f 25 j rfl rfl]; exact s6 j)), (s7.kp (f 4 7 rfl rfl) (f2_fn (c := 31) f rfl (fun _ => rfl)) (f2_fn (c := 32) f rfl (fun _ => rfl)) (f2_fn (c := 33) f rfl (fun _ => rfl))), (s8.kp (f 4 7 rfl rfl) (f2_fn (c := 45) f rfl (fun _ => rfl)) (f2_fn (c := 46) f rfl (fun _ => rfl))), ⟨(show rg (_ : Int32) _ _ by rw [f 8 1 rfl rfl]; exact s9.1), (show rg (_ : Int32) _ _ by rw [f 8 2 rfl rfl]; exact s9.2)⟩, ⟨(show rg (_ : Int32) _ _ by rw [f 9 1 rfl rfl]; exact s10.1), (show rg (_ : Int32) _ _ by rw [f 9 2 rfl rfl]; exact s10.2)⟩, ⟨(show rg (_ : Int32) _ _ by rw [f 10 1 rfl rfl]; exact s11.1), (show rg (_ : Int32) _ _ by rw [f 10 2 rfl rfl]; exact s11.2)⟩, ⟨(show rg (_ : Int32) _ _ by rw [f 11 1 rfl rfl]; exact s12.1), (show rg (_ : Int32) _ _ by rw [f 11 2 rfl rfl]; exact s12.2)⟩⟩ f (Or.inr ⟨0, 3, by decide, by decide, mg_eq (by decide) e, mg_eq (by decide) e2, Or.inr (Or.inr (Or.inr ⟨nn, q1, ⟨y1, y2⟩, rfl, rfl⟩))⟩)
                  · first | refine And.intro (fun z => absurd z (by decide)) (fun _ => ?_) | refine And.intro (fun _ => ?_) (fun z => absurd z (by decide))
                    exact h _ _ sc mg_f2.rf (Or.inr ⟨0, 3, by decide, by decide, mg_eq (by decide) e, mg_eq (by decide) e2, Or.inr (Or.inr (Or.inl ⟨nn, q1, fun z => y2 z.2, rfl, rfl⟩))⟩)
                · first | refine And.intro (fun z => absurd z (by decide)) (fun _ => ?_) | refine And.intro (fun _ => ?_) (fun z => absurd z (by decide))
                  exact h _ _ sc mg_f2.rf (Or.inr ⟨0, 3, by decide, by decide, mg_eq (by decide) e, mg_eq (by decide) e2, Or.inr (Or.inr (Or.inl ⟨nn, q1, fun z => y1 z.1, rfl, rfl⟩))⟩)
              · exact h _ _ sc mg_f2.rf (Or.inr ⟨0, 3, by decide, by decide, mg_eq (by decide) e, mg_eq (by decide) e2, Or.inr (Or.inl ⟨nn, q1, rfl, rfl⟩)⟩)
      · refine And.intro B2 (And.intro (fun e2 => ?_) (And.intro (fun e2 => ?_) (And.intro (fun e2 => ?_) (fun e2 => ?_))))
        · refine s_isNothing9 (by omega) (fun n1 => ?_) (fun n1 => ?_)
          · first | refine And.intro (fun z => absurd z (by decide)) (fun _ => ?_) | refine And.intro (fun _ => ?_) (fun z => absurd z (by decide))
            exact h _ _ sc mg_f2.rf (Or.inr ⟨1, 0, by decide, by decide, mg_eq (by decide) e, mg_eq (by decide) e2, Or.inl ⟨Or.inl n1, rfl, rfl⟩⟩)
          · first | refine And.intro (fun z => absurd z (by decide)) (fun _ => ?_) | refine And.intro (fun _ => ?_) (fun z => absurd z (by decide))
            refine s_isNothing8 (by omega) (fun n2 => ?_) (fun n2 => ?_)
            · first | refine And.intro (fun z => absurd z (by decide)) (fun _ => ?_) | refine And.intro (fun _ => ?_) (fun z => absurd z (by decide))
              exact h _ _ sc mg_f2.rf (Or.inr ⟨1, 0, by decide, by decide, mg_eq (by decide) e, mg_eq (by decide) e2, Or.inl ⟨Or.inr n2, rfl, rfl⟩⟩)
            · first | refine And.intro (fun z => absurd z (by decide)) (fun _ => ?_) | refine And.intro (fun _ => ?_) (fun z => absurd z (by decide))
              have nn : ¬ (I 9 1 = -1 ∨ I 8 1 = -1) := fun z => z.elim n1 n2
              refine And.intro (fun q1 => ?_) (fun q1 => ?_)
              · refine s_hasItems9 (by omega) i n (fun y1 => ?_) (fun y1 => ?_)
                · first | refine And.intro (fun z => absurd z (by decide)) (fun _ => ?_) | refine And.intro (fun _ => ?_) (fun z => absurd z (by decide))
                  refine s_hasItems8 (by omega) j n (fun y2 => ?_) (fun y2 => ?_)
                  · first | refine And.intro (fun z => absurd z (by decide)) (fun _ => ?_) | refine And.intro (fun _ => ?_) (fun z => absurd z (by decide))
                    have z1 := mg_has s10.2 y1
                    have z2 := mg_has s9.2 y2
                    have w1 := s10.2.2
                    have w2 := s9.2.2
                    have k1 := mi_cl z1.1
                    have k2 := mi_cl z2.1
                    have k3 := mi_cl z1.2.1
                    have f : mg_f2 [47, 48, 49, 50] [] I (va_up I 47 (va_cpy (I 48) (I 47) i.toNatClampNeg j.toNatClampNeg n.toNatClampNeg)) := mg_f2.up mg_f2.rf rfl
                    refine And.intro (fun z => by rw [mi_lt] at z; have := mi_l; omega) (And.intro (fun z => by rw [mi_lt] at z; have := mi_l; omega) (And.intro (fun z => by rw [mi_lt] at z; have := mi_l; omega) (And.intro (show i.toNatClampNeg + n.toNatClampNeg ≤ 60 by omega) (And.intro (show j.toNatClampNeg + n.toNatClampNeg ≤ 60 by omega) ?_))))
                    exact h _ _ ⟨(show rg (_ : Int32) _ _ by rw [f 0 7 rfl rfl]; exact s1), (show rg (_ : Int32) _ _ by rw [f 1 2 rfl rfl]; exact s2), (show rg (_ : Int32) _ _ by rw [f 1 9 rfl rfl]; exact s3), (show rg (_ : Int32) _ _ by rw [f 2 2 rfl rfl]; exact s4), (show rg (_ : Int32) _ _ by rw [f 3 6 rfl rfl]; exact s5), (fun j => (by rw [f 25 j rfl rfl]; exact s6 j)), (s7.kp (f 4 7 rfl rfl) (f2_fn (c := 31) f rfl (fun _ => rfl)) (f2_fn (c := 32) f rfl (fun _ => rfl)) (f2_fn (c := 33) f rfl (fun _ => rfl))), (s8.kp (f 4 7 rfl rfl) (f2_fn (c := 45) f rfl (fun _ => rfl)) (f2_fn (c := 46) f rfl (fun _ => rfl))), ⟨(show rg (_ : Int32) _ _ by rw [f 8 1 rfl rfl]; exact s9.1), (show rg (_ : Int32) _ _ by rw [f 8 2 rfl rfl]; exact s9.2)⟩, ⟨(show rg (_ : Int32) _ _ by rw [f 9 1 rfl rfl]; exact s10.1), (show rg (_ : Int32) _ _ by rw [f 9 2 rfl rfl]; exact s10.2)⟩, ⟨(show rg (_ : Int32) _ _ by rw [f 10 1 rfl rfl]; exact s11.1), (show rg (_ : Int32) _ _ by rw [f 10 2 rfl rfl]; exact s11.2)⟩, ⟨(show rg (_ : Int32) _ _ by rw [f 11 1 rfl rfl]; exact s12.1), (show rg (_ : Int32) _ _ by rw [f 11 2 rfl rfl]; exact s12.2)⟩⟩ f (Or.inr ⟨1, 0, by decide, by decide, mg_eq (by decide) e, mg_eq (by decide) e2, Or.inr (Or.inr (Or.inr ⟨nn, q1, ⟨y1, y2⟩, rfl, rfl⟩))⟩)
                  · first | refine And.intro (fun z => absurd z (by decide)) (fun _ => ?_) | refine And.intro (fun _ => ?_) (fun z => absurd z (by decide))
                    exact h _ _ sc mg_f2.rf (Or.inr ⟨1, 0, by decide, by decide, mg_eq (by decide) e, mg_eq (by decide) e2, Or.inr (Or.inr (Or.inl ⟨nn, q1, fun z => y2 z.2, rfl, rfl⟩))⟩)
                · first | refine And.intro (fun z => absurd z (by decide)) (fun _ => ?_) | refine And.intro (fun _ => ?_) (fun z => absurd z (by decide))
                  exact h _ _ sc mg_f2.rf (Or.inr ⟨1, 0, by decide, by decide, mg_eq (by decide) e, mg_eq (by decide) e2, Or.inr (Or.inr (Or.inl ⟨nn, q1, fun z => y1 z.1, rfl, rfl⟩))⟩)
              · exact h _ _ sc mg_f2.rf (Or.inr ⟨1, 0, by decide, by decide, mg_eq (by decide) e, mg_eq (by decide) e2, Or.inr (Or.inl ⟨nn, q1, rfl, rfl⟩)⟩)
        · refine s_isNothing9 (by omega) (fun n1 => ?_) (fun n1 => ?_)
          · first | refine And.intro (fun z => absurd z (by decide)) (fun _ => ?_) | refine And.intro (fun _ => ?_) (fun z => absurd z (by decide))
            exact h _ _ sc mg_f2.rf (Or.inr ⟨1, 1, by decide, by decide, mg_eq (by decide) e, mg_eq (by decide) e2, Or.inl ⟨Or.inl n1, rfl, rfl⟩⟩)
          · first | refine And.intro (fun z => absurd z (by decide)) (fun _ => ?_) | refine And.intro (fun _ => ?_) (fun z => absurd z (by decide))
            refine s_isNothing9 (by omega) (fun n2 => ?_) (fun n2 => ?_)
            · first | refine And.intro (fun z => absurd z (by decide)) (fun _ => ?_) | refine And.intro (fun _ => ?_) (fun z => absurd z (by decide))
              exact h _ _ sc mg_f2.rf (Or.inr ⟨1, 1, by decide, by decide, mg_eq (by decide) e, mg_eq (by decide) e2, Or.inl ⟨Or.inr n2, rfl, rfl⟩⟩)
            · first | refine And.intro (fun z => absurd z (by decide)) (fun _ => ?_) | refine And.intro (fun _ => ?_) (fun z => absurd z (by decide))
              have nn : ¬ (I 9 1 = -1 ∨ I 9 1 = -1) := fun z => z.elim n1 n2
              refine And.intro (fun q1 => ?_) (fun q1 => ?_)
              · refine s_hasItems9 (by omega) i n (fun y1 => ?_) (fun y1 => ?_)
                · first | refine And.intro (fun z => absurd z (by decide)) (fun _ => ?_) | refine And.intro (fun _ => ?_) (fun z => absurd z (by decide))
                  refine s_hasItems9 (by omega) j n (fun y2 => ?_) (fun y2 => ?_)
                  · first | refine And.intro (fun z => absurd z (by decide)) (fun _ => ?_) | refine And.intro (fun _ => ?_) (fun z => absurd z (by decide))
                    have z1 := mg_has s10.2 y1
                    have z2 := mg_has s10.2 y2
                    have w1 := s10.2.2
                    have w2 := s10.2.2
                    have k1 := mi_cl z1.1
                    have k2 := mi_cl z2.1
                    have k3 := mi_cl z1.2.1
                    have f : mg_f2 [47, 48, 49, 50] [] I (va_up I 48 (va_cpy (I 48) (I 48) i.toNatClampNeg j.toNatClampNeg n.toNatClampNeg)) := mg_f2.up mg_f2.rf rfl
                    refine And.intro (fun z => by rw [mi_lt] at z; have := mi_l; omega) (And.intro (fun z => by rw [mi_lt] at z; have := mi_l; omega) (And.intro (fun z => by rw [mi_lt] at z; have := mi_l; omega) (And.intro (show i.toNatClampNeg + n.toNatClampNeg ≤ 60 by omega) (And.intro (show j.toNatClampNeg + n.toNatClampNeg ≤ 60 by omega) ?_))))
                    exact h _ _ ⟨(show rg (_ : Int32) _ _ by rw [f 0 7 rfl rfl]; exact s1), (show rg (_ : Int32) _ _ by rw [f 1 2 rfl rfl]; exact s2), (show rg (_ : Int32) _ _ by rw [f 1 9 rfl rfl]; exact s3), (show rg (_ : Int32) _ _ by rw [f 2 2 rfl rfl]; exact s4), (show rg (_ : Int32) _ _ by rw [f 3 6 rfl rfl]; exact s5), (fun j => (by rw [f 25 j rfl rfl]; exact s6 j)), (s7.kp (f 4 7 rfl rfl) (f2_fn (c := 31) f rfl (fun _ => rfl)) (f2_fn (c := 32) f rfl (fun _ => rfl)) (f2_fn (c := 33) f rfl (fun _ => rfl))), (s8.kp (f 4 7 rfl rfl) (f2_fn (c := 45) f rfl (fun _ => rfl)) (f2_fn (c := 46) f rfl (fun _ => rfl))), ⟨(show rg (_ : Int32) _ _ by rw [f 8 1 rfl rfl]; exact s9.1), (show rg (_ : Int32) _ _ by rw [f 8 2 rfl rfl]; exact s9.2)⟩, ⟨(show rg (_ : Int32) _ _ by rw [f 9 1 rfl rfl]; exact s10.1), (show rg (_ : Int32) _ _ by rw [f 9 2 rfl rfl]; exact s10.2)⟩, ⟨(show rg (_ : Int32) _ _ by rw [f 10 1 rfl rfl]; exact s11.1), (show rg (_ : Int32) _ _ by rw [f 10 2 rfl rfl]; exact s11.2)⟩, ⟨(show rg (_ : Int32) _ _ by rw [f 11 1 rfl rfl]; exact s12.1), (show rg (_ : Int32) _ _ by rw [f 11 2 rfl rfl]; exact s12.2)⟩⟩ f (Or.inr ⟨1, 1, by decide, by decide, mg_eq (by decide) e, mg_eq (by decide) e2, Or.inr (Or.inr (Or.inr ⟨nn, q1, ⟨y1, y2⟩, rfl, rfl⟩))⟩)
                  · first | refine And.intro (fun z => absurd z (by decide)) (fun _ => ?_) | refine And.intro (fun _ => ?_) (fun z => absurd z (by decide))
                    exact h _ _ sc mg_f2.rf (Or.inr ⟨1, 1, by decide, by decide, mg_eq (by decide) e, mg_eq (by decide) e2, Or.inr (Or.inr (Or.inl ⟨nn, q1, fun z => y2 z.2, rfl, rfl⟩))⟩)
                · first | refine And.intro (fun z => absurd z (by decide)) (fun _ => ?_) | refine And.intro (fun _ => ?_) (fun z => absurd z (by decide))
                  exact h _ _ sc mg_f2.rf (Or.inr ⟨1, 1, by decide, by decide, mg_eq (by decide) e, mg_eq (by decide) e2, Or.inr (Or.inr (Or.inl ⟨nn, q1, fun z => y1 z.1, rfl, rfl⟩))⟩)
              · exact h _ _ sc mg_f2.rf (Or.inr ⟨1, 1, by decide, by decide, mg_eq (by decide) e, mg_eq (by decide) e2, Or.inr (Or.inl ⟨nn, q1, rfl, rfl⟩)⟩)
        · refine s_isNothing9 (by omega) (fun n1 => ?_) (fun n1 => ?_)
          · first | refine And.intro (fun z => absurd z (by decide)) (fun _ => ?_) | refine And.intro (fun _ => ?_) (fun z => absurd z (by decide))
            exact h _ _ sc mg_f2.rf (Or.inr ⟨1, 2, by decide, by decide, mg_eq (by decide) e, mg_eq (by decide) e2, Or.inl ⟨Or.inl n1, rfl, rfl⟩⟩)
          · first | refine And.intro (fun z => absurd z (by decide)) (fun _ => ?_) | refine And.intro (fun _ => ?_) (fun z => absurd z (by decide))
            refine s_isNothing10 (by omega) (fun n2 => ?_) (fun n2 => ?_)
            · first | refine And.intro (fun z => absurd z (by decide)) (fun _ => ?_) | refine And.intro (fun _ => ?_) (fun z => absurd z (by decide))
              exact h _ _ sc mg_f2.rf (Or.inr ⟨1, 2, by decide, by decide, mg_eq (by decide) e, mg_eq (by decide) e2, Or.inl ⟨Or.inr n2, rfl, rfl⟩⟩)
            · first | refine And.intro (fun z => absurd z (by decide)) (fun _ => ?_) | refine And.intro (fun _ => ?_) (fun z => absurd z (by decide))
              have nn : ¬ (I 9 1 = -1 ∨ I 10 1 = -1) := fun z => z.elim n1 n2
              refine And.intro (fun q1 => ?_) (fun q1 => ?_)
              · refine s_hasItems9 (by omega) i n (fun y1 => ?_) (fun y1 => ?_)
                · first | refine And.intro (fun z => absurd z (by decide)) (fun _ => ?_) | refine And.intro (fun _ => ?_) (fun z => absurd z (by decide))
                  refine s_hasItems10 (by omega) j n (fun y2 => ?_) (fun y2 => ?_)
                  · first | refine And.intro (fun z => absurd z (by decide)) (fun _ => ?_) | refine And.intro (fun _ => ?_) (fun z => absurd z (by decide))
                    have z1 := mg_has s10.2 y1
                    have z2 := mg_has s11.2 y2
                    have w1 := s10.2.2
                    have w2 := s11.2.2
                    have k1 := mi_cl z1.1
                    have k2 := mi_cl z2.1
                    have k3 := mi_cl z1.2.1
                    have f : mg_f2 [47, 48, 49, 50] [] I (va_up I 49 (va_cpy (I 48) (I 49) i.toNatClampNeg j.toNatClampNeg n.toNatClampNeg)) := mg_f2.up mg_f2.rf rfl
                    refine And.intro (fun z => by rw [mi_lt] at z; have := mi_l; omega) (And.intro (fun z => by rw [mi_lt] at z; have := mi_l; omega) (And.intro (fun z => by rw [mi_lt] at z; have := mi_l; omega) (And.intro (show i.toNatClampNeg + n.toNatClampNeg ≤ 60 by omega) (And.intro (show j.toNatClampNeg + n.toNatClampNeg ≤ 60 by omega) ?_))))
                    exact h _ _ ⟨(show rg (_ : Int32) _ _ by rw [f 0 7 rfl rfl]; exact s1), (show rg (_ : Int32) _ _ by rw [f 1 2 rfl rfl]; exact s2), (show rg (_ : Int32) _ _ by rw [f 1 9 rfl rfl]; exact s3), (show rg (_ : Int32) _ _ by rw [f 2 2 rfl rfl]; exact s4), (show rg (_ : Int32) _ _ by rw [f 3 6 rfl rfl]; exact s5), (fun j => (by rw [f 25 j rfl rfl]; exact s6 j)), (s7.kp (f 4 7 rfl rfl) (f2_fn (c := 31) f rfl (fun _ => rfl)) (f2_fn (c := 32) f rfl (fun _ => rfl)) (f2_fn (c := 33) f rfl (fun _ => rfl))), (s8.kp (f 4 7 rfl rfl) (f2_fn (c := 45) f rfl (fun _ => rfl)) (f2_fn (c := 46) f rfl (fun _ => rfl))), ⟨(show rg (_ : Int32) _ _ by rw [f 8 1 rfl rfl]; exact s9.1), (show rg (_ : Int32) _ _ by rw [f 8 2 rfl rfl]; exact s9.2)⟩, ⟨(show rg (_ : Int32) _ _ by rw [f 9 1 rfl rfl]; exact s10.1), (show rg (_ : Int32) _ _ by rw [f 9 2 rfl rfl]; exact s10.2)⟩, ⟨(show rg (_ : Int32) _ _ by rw [f 10 1 rfl rfl]; exact s11.1), (show rg (_ : Int32) _ _ by rw [f 10 2 rfl rfl]; exact s11.2)⟩, ⟨(show rg (_ : Int32) _ _ by rw [f 11 1 rfl rfl]; exact s12.1), (show rg (_ : Int32) _ _ by rw [f 11 2 rfl rfl]; exact s12.2)⟩⟩ f (Or.inr ⟨1, 2, by decide, by decide, mg_eq (by decide) e, mg_eq (by decide) e2, Or.inr (Or.inr (Or.inr ⟨nn, q1, ⟨y1, y2⟩, rfl, rfl⟩))⟩)
                  · first | refine And.intro (fun z => absurd z (by decide)) (fun _ => ?_) | refine And.intro (fun _ => ?_) (fun z => absurd z (by decide))
                    exact h _ _ sc mg_f2.rf (Or.inr ⟨1, 2, by decide, by decide, mg_eq (by decide) e, mg_eq (by decide) e2, Or.inr (Or.inr (Or.inl ⟨nn, q1, fun z => y2 z.2, rfl, rfl⟩))⟩)
                · first | refine And.intro (fun z => absurd z (by decide)) (fun _ => ?_) | refine And.intro (fun _ => ?_) (fun z => absurd z (by decide))
                  exact h _ _ sc mg_f2.rf (Or.inr ⟨1, 2, by decide, by decide, mg_eq (by decide) e, mg_eq (by decide) e2, Or.inr (Or.inr (Or.inl ⟨nn, q1, fun z => y1 z.1, rfl, rfl⟩))⟩)
              · exact h _ _ sc mg_f2.rf (Or.inr ⟨1, 2, by decide, by decide, mg_eq (by decide) e, mg_eq (by decide) e2, Or.inr (Or.inl ⟨nn, q1, rfl, rfl⟩)⟩)
        · refine s_isNothing9 (by omega) (fun n1 => ?_) (fun n1 => ?_)
          · first | refine And.intro (fun z => absurd z (by decide)) (fun _ => ?_) | refine And.intro (fun _ => ?_) (fun z => absurd z (by decide))
            exact h _ _ sc mg_f2.rf (Or.inr ⟨1, 3, by decide, by decide, mg_eq (by decide) e, mg_eq (by decide) e2, Or.inl ⟨Or.inl n1, rfl, rfl⟩⟩)
          · first | refine And.intro (fun z => absurd z (by decide)) (fun _ => ?_) | refine And.intro (fun _ => ?_) (fun z => absurd z (by decide))
            refine s_isNothing11 (by omega) (fun n2 => ?_) (fun n2 => ?_)
            · first | refine And.intro (fun z => absurd z (by decide)) (fun _ => ?_) | refine And.intro (fun _ => ?_) (fun z => absurd z (by decide))
              exact h _ _ sc mg_f2.rf (Or.inr ⟨1, 3, by decide, by decide, mg_eq (by decide) e, mg_eq (by decide) e2, Or.inl ⟨Or.inr n2, rfl, rfl⟩⟩)
            · first | refine And.intro (fun z => absurd z (by decide)) (fun _ => ?_) | refine And.intro (fun _ => ?_) (fun z => absurd z (by decide))
              have nn : ¬ (I 9 1 = -1 ∨ I 11 1 = -1) := fun z => z.elim n1 n2
              refine And.intro (fun q1 => ?_) (fun q1 => ?_)
              · refine s_hasItems9 (by omega) i n (fun y1 => ?_) (fun y1 => ?_)
                · first | refine And.intro (fun z => absurd z (by decide)) (fun _ => ?_) | refine And.intro (fun _ => ?_) (fun z => absurd z (by decide))
                  refine s_hasItems11 (by omega) j n (fun y2 => ?_) (fun y2 => ?_)
                  · first | refine And.intro (fun z => absurd z (by decide)) (fun _ => ?_) | refine And.intro (fun _ => ?_) (fun z => absurd z (by decide))
                    have z1 := mg_has s10.2 y1
                    have z2 := mg_has s12.2 y2
                    have w1 := s10.2.2
                    have w2 := s12.2.2
                    have k1 := mi_cl z1.1
                    have k2 := mi_cl z2.1
                    have k3 := mi_cl z1.2.1
                    have f : mg_f2 [47, 48, 49, 50] [] I (va_up I 50 (va_cpy (I 48) (I 50) i.toNatClampNeg j.toNatClampNeg n.toNatClampNeg)) := mg_f2.up mg_f2.rf rfl
                    refine And.intro (fun z => by rw [mi_lt] at z; have := mi_l; omega) (And.intro (fun z => by rw [mi_lt] at z; have := mi_l; omega) (And.intro (fun z => by rw [mi_lt] at z; have := mi_l; omega) (And.intro (show i.toNatClampNeg + n.toNatClampNeg ≤ 60 by omega) (And.intro (show j.toNatClampNeg + n.toNatClampNeg ≤ 60 by omega) ?_))))
                    exact h _ _ ⟨(show rg (_ : Int32) _ _ by rw [f 0 7 rfl rfl]; exact s1), (show rg (_ : Int32) _ _ by rw [f 1 2 rfl rfl]; exact s2), (show rg (_ : Int32) _ _ by rw [f 1 9 rfl rfl]; exact s3), (show rg (_ : Int32) _ _ by rw [f 2 2 rfl rfl]; exact s4), (show rg (_ : Int32) _ _ by rw [f 3 6 rfl rfl]; exact s5), (fun j => (by rw [f 25 j rfl rfl]; exact s6 j)), (s7.kp (f 4 7 rfl rfl) (f2_fn (c := 31) f rfl (fun _ => rfl)) (f2_fn (c := 32) f rfl (fun _ => rfl)) (f2_fn (c := 33) f rfl (fun _ => rfl))), (s8.kp (f 4 7 rfl rfl) (f2_fn (c := 45) f rfl (fun _ => rfl)) (f2_fn (c := 46) f rfl (fun _ => rfl))), ⟨(show rg (_ : Int32) _ _ by rw [f 8 1 rfl rfl]; exact s9.1), (show rg (_ : Int32) _ _ by rw [f 8 2 rfl rfl]; exact s9.2)⟩, ⟨(show rg (_ : Int32) _ _ by rw [f 9 1 rfl rfl]; exact s10.1), (show rg (_ : Int32) _ _ by rw [f 9 2 rfl rfl]; exact s10.2)⟩, ⟨(show rg (_ : Int32) _ _ by rw [f 10 1 rfl rfl]; exact s11.1), (show rg (_ : Int32) _ _ by rw [f 10 2 rfl rfl]; exact s11.2)⟩, ⟨(show rg (_ : Int32) _ _ by rw [f 11 1 rfl rfl]; exact s12.1), (show rg (_ : Int32) _ _ by rw [f 11 2 rfl rfl]; exact s12.2)⟩⟩ f (Or.inr ⟨1, 3, by decide, by decide, mg_eq (by decide) e, mg_eq (by decide) e2, Or.inr (Or.inr (Or.inr ⟨nn, q1, ⟨y1, y2⟩, rfl, rfl⟩))⟩)
                  · first | refine And.intro (fun z => absurd z (by decide)) (fun _ => ?_) | refine And.intro (fun _ => ?_) (fun z => absurd z (by decide))
                    exact h _ _ sc mg_f2.rf (Or.inr ⟨1, 3, by decide, by decide, mg_eq (by decide) e, mg_eq (by decide) e2, Or.inr (Or.inr (Or.inl ⟨nn, q1, fun z => y2 z.2, rfl, rfl⟩))⟩)
                · first | refine And.intro (fun z => absurd z (by decide)) (fun _ => ?_) | refine And.intro (fun _ => ?_) (fun z => absurd z (by decide))
                  exact h _ _ sc mg_f2.rf (Or.inr ⟨1, 3, by decide, by decide, mg_eq (by decide) e, mg_eq (by decide) e2, Or.inr (Or.inr (Or.inl ⟨nn, q1, fun z => y1 z.1, rfl, rfl⟩))⟩)
              · exact h _ _ sc mg_f2.rf (Or.inr ⟨1, 3, by decide, by decide, mg_eq (by decide) e, mg_eq (by decide) e2, Or.inr (Or.inl ⟨nn, q1, rfl, rfl⟩)⟩)
      · refine And.intro B2 (And.intro (fun e2 => ?_) (And.intro (fun e2 => ?_) (And.intro (fun e2 => ?_) (fun e2 => ?_))))
        · refine s_isNothing10 (by omega) (fun n1 => ?_) (fun n1 => ?_)
          · first | refine And.intro (fun z => absurd z (by decide)) (fun _ => ?_) | refine And.intro (fun _ => ?_) (fun z => absurd z (by decide))
            exact h _ _ sc mg_f2.rf (Or.inr ⟨2, 0, by decide, by decide, mg_eq (by decide) e, mg_eq (by decide) e2, Or.inl ⟨Or.inl n1, rfl, rfl⟩⟩)
          · first | refine And.intro (fun z => absurd z (by decide)) (fun _ => ?_) | refine And.intro (fun _ => ?_) (fun z => absurd z (by decide))
            refine s_isNothing8 (by omega) (fun n2 => ?_) (fun n2 => ?_)
            · first | refine And.intro (fun z => absurd z (by decide)) (fun _ => ?_) | refine And.intro (fun _ => ?_) (fun z => absurd z (by decide))
              exact h _ _ sc mg_f2.rf (Or.inr ⟨2, 0, by decide, by decide, mg_eq (by decide) e, mg_eq (by decide) e2, Or.inl ⟨Or.inr n2, rfl, rfl⟩⟩)
            · first | refine And.intro (fun z => absurd z (by decide)) (fun _ => ?_) | refine And.intro (fun _ => ?_) (fun z => absurd z (by decide))
              have nn : ¬ (I 10 1 = -1 ∨ I 8 1 = -1) := fun z => z.elim n1 n2
              refine And.intro (fun q1 => ?_) (fun q1 => ?_)
              · refine s_hasItems10 (by omega) i n (fun y1 => ?_) (fun y1 => ?_)
                · first | refine And.intro (fun z => absurd z (by decide)) (fun _ => ?_) | refine And.intro (fun _ => ?_) (fun z => absurd z (by decide))
                  refine s_hasItems8 (by omega) j n (fun y2 => ?_) (fun y2 => ?_)
                  · first | refine And.intro (fun z => absurd z (by decide)) (fun _ => ?_) | refine And.intro (fun _ => ?_) (fun z => absurd z (by decide))
                    have z1 := mg_has s11.2 y1
                    have z2 := mg_has s9.2 y2
                    have w1 := s11.2.2
                    have w2 := s9.2.2
                    have k1 := mi_cl z1.1
                    have k2 := mi_cl z2.1
                    have k3 := mi_cl z1.2.1
                    have f : mg_f2 [47, 48, 49, 50] [] I (va_up I 47 (va_cpy (I 49) (I 47) i.toNatClampNeg j.toNatClampNeg n.toNatClampNeg)) := mg_f2.up mg_f2.rf rfl
                    refine And.intro (fun z => by rw [mi_lt] at z; have := mi_l; omega) (And.intro (fun z => by rw [mi_lt] at z; have := mi_l; omega) (And.intro (fun z => by rw [mi_lt] at z; have := mi_l; omega) (And.intro (show i.toNatClampNeg + n.toNatClampNeg ≤ 60 by omega) (And.intro (show j.toNatClampNeg + n.toNatClampNeg ≤ 60 by omega) ?_))))
                    exact h _ _ ⟨(show rg (_ : Int32) _ _ by rw [f 0 7 rfl rfl]; exact s1), (show rg (_ : Int32) _ _ by rw [f 1 2 rfl rfl]; exact s2), (show rg (_ : Int32) _ _ by rw [f 1 9 rfl rfl]; exact s3), (show rg (_ : Int32) _ _ by rw [f 2 2 rfl rfl]; exact s4), (show rg (_ : Int32) _ _ by rw [f 3 6 rfl rfl]; exact s5), (fun j => (by rw [f 25 j rfl rfl]; exact s6 j)), (s7.kp (f 4 7 rfl rfl) (f2_fn (c := 31) f rfl (fun _ => rfl)) (f2_fn (c := 32) f rfl (fun _ => rfl)) (f2_fn (c := 33) f rfl (fun _ => rfl))), (s8.kp (f 4 7 rfl rfl) (f2_fn (c := 45) f rfl (fun _ => rfl)) (f2_fn (c := 46) f rfl (fun _ => rfl))), ⟨(show rg (_ : Int32) _ _ by rw [f 8 1 rfl rfl]; exact s9.1), (show rg (_ : Int32) _ _ by rw [f 8 2 rfl rfl]; exact s9.2)⟩, ⟨(show rg (_ : Int32) _ _ by rw [f 9 1 rfl rfl]; exact s10.1), (show rg (_ : Int32) _ _ by rw [f 9 2 rfl rfl]; exact s10.2)⟩, ⟨(show rg (_ : Int32) _ _ by rw [f 10 1 rfl rfl]; exact s11.1), (show rg (_ : Int32) _ _ by rw [f 10 2 rfl rfl]; exact s11.2)⟩, ⟨(show rg (_ : Int32) _ _ by rw [f 11 1 rfl rfl]; exact s12.1), (show rg (_ : Int32) _ _ by rw [f 11 2 rfl rfl]; exact s12.2)⟩⟩ f (Or.inr ⟨2, 0, by decide, by decide, mg_eq (by decide) e, mg_eq (by decide) e2, Or.inr (Or.inr (Or.inr ⟨nn, q1, ⟨y1, y2⟩, rfl, rfl⟩))⟩)
                  · first | refine And.intro (fun z => absurd z (by decide)) (fun _ => ?_) | refine And.intro (fun _ => ?_) (fun z => absurd z (by decide))
                    exact h _ _ sc mg_f2.rf (Or.inr ⟨2, 0, by decide, by decide, mg_eq (by decide) e, mg_eq (by decide) e2, Or.inr (Or.inr (Or.inl ⟨nn, q1, fun z => y2 z.2, rfl, rfl⟩))⟩)
                · first | refine And.intro (fun z => absurd z (by decide)) (fun _ => ?_) | refine And.intro (fun _ => ?_) (fun z => absurd z (by decide))
                  exact h _ _ sc mg_f2.rf (Or.inr ⟨2, 0, by decide, by decide, mg_eq (by decide) e, mg_eq (by decide) e2, Or.inr (Or.inr (Or.inl ⟨nn, q1, fun z => y1 z.1, rfl, rfl⟩))⟩)
              · exact h _ _ sc mg_f2.rf (Or.inr ⟨2, 0, by decide, by decide, mg_eq (by decide) e, mg_eq (by decide) e2, Or.inr (Or.inl ⟨nn, q1, rfl, rfl⟩)⟩)
        · refine s_isNothing10 (by omega) (fun n1 => ?_) (fun n1 => ?_)
          · first | refine And.intro (fun z => absurd z (by decide)) (fun _ => ?_) | refine And.intro (fun _ => ?_) (fun z => absurd z (by decide))
            exact h _ _ sc mg_f2.rf (Or.inr ⟨2, 1, by decide, by decide, mg_eq (by decide) e, mg_eq (by decide) e2, Or.inl ⟨Or.inl n1, rfl, rfl⟩⟩)
          · first | refine And.intro (fun z => absurd z (by decide)) (fun _ => ?_) | refine And.intro (fun _ => ?_) (fun z => absurd z (by decide))
            refine s_isNothing9 (by omega) (fun n2 => ?_) (fun n2 => ?_)
            · first | refine And.intro (fun z => absurd z (by decide)) (fun _ => ?_) | refine And.intro (fun _ => ?_) (fun z => absurd z (by decide))
              exact h _ _ sc mg_f2.rf (Or.inr ⟨2, 1, by decide, by decide, mg_eq (by decide) e, mg_eq (by decide) e2, Or.inl ⟨Or.inr n2, rfl, rfl⟩⟩)
            · first | refine And.intro (fun z => absurd z (by decide)) (fun _ => ?_) | refine And.intro (fun _ => ?_) (fun z => absurd z (by decide))
              have nn : ¬ (I 10 1 = -1 ∨ I 9 1 = -1) := fun z => z.elim n1 n2
              refine And.intro (fun q1 => ?_) (fun q1 => ?_)
              · refine s_hasItems10 (by omega) i n (fun y1 => ?_) (fun y1 => ?_)
                · first | refine And.intro (fun z => absurd z (by decide)) (fun _ => ?_) | refine And.intro (fun _ => ?_) (fun z => absurd z (by decide))
                  refine s_hasItems9 (by omega) j n (fun y2 => ?_) (fun y2 => ?_)
                  · first | refine And.intro (fun z => absurd z (by decide)) (fun _ => ?_) | refine And.intro (fun _ => ?_) (fun z => absurd z (by decide))
                    have z1 := mg_has s11.2 y1
                    have z2 := mg_has s10.2 y2
                    have w1 := s11.2.2
                    have w2 := s10.2.2
                    have k1 := mi_cl z1.1
                    have k2 := mi_cl z2.1
                    have k3 := mi_cl z1.2.1
                    have f : mg_f2 [47, 48, 49, 50] [] I (va_up I 48 (va_cpy (I 49) (I 48) i.toNatClampNeg j.toNatClampNeg n.toNatClampNeg)) := mg_f2.up mg_f2.rf rfl
                    refine And.intro (fun z => by rw [mi_lt] at z; have := mi_l; omega) (And.intro (fun z => by rw [mi_lt] at z; have := mi_l; omega) (And.intro (fun z => by rw [mi_lt] at z; have := mi_l; omega) (And.intro (show i.toNatClampNeg + n.toNatClampNeg ≤ 60 by omega) (And.intro (show j.toNatClampNeg + n.toNatClampNeg ≤ 60 by omega) ?_))))
                    exact h _ _ ⟨(show rg (_ : Int32) _ _ by rw [f 0 7 rfl rfl]; exact s1), (show rg (_ : Int32) _ _ by rw [f 1 2 rfl rfl]; exact s2), (show rg (_ : Int32) _ _ by rw [f 1 9 rfl rfl]; exact s3), (show rg (_ : Int32) _ _ by rw [f 2 2 rfl rfl]; exact s4), (show rg (_ : Int32) _ _ by rw [f 3 6 rfl rfl]; exact s5), (fun j => (by rw [f 25 j rfl rfl]; exact s6 j)), (s7.kp (f 4 7 rfl rfl) (f2_fn (c := 31) f rfl (fun _ => rfl)) (f2_fn (c := 32) f rfl (fun _ => rfl)) (f2_fn (c := 33) f rfl (fun _ => rfl))), (s8.kp (f 4 7 rfl rfl) (f2_fn (c := 45) f rfl (fun _ => rfl)) (f2_fn (c := 46) f rfl (fun _ => rfl))), ⟨(show rg (_ : Int32) _ _ by rw [f 8 1 rfl rfl]; exact s9.1), (show rg (_ : Int32) _ _ by rw [f 8 2 rfl rfl]; exact s9.2)⟩, ⟨(show rg (_ : Int32) _ _ by rw [f 9 1 rfl rfl]; exact s10.1), (show rg (_ : Int32) _ _ by rw [f 9 2 rfl rfl]; exact s10.2)⟩, ⟨(show rg (_ : Int32) _ _ by rw [f 10 1 rfl rfl]; exact s11.1), (show rg (_ : Int32) _ _ by rw [f 10 2 rfl rfl]; exact s11.2)⟩, ⟨(show rg (_ : Int32) _ _ by rw [f 11 1 rfl rfl]; exact s12.1), (show rg (_ : Int32) _ _ by rw [f 11 2 rfl rfl]; exact s12.2)⟩⟩ f (Or.inr ⟨2, 1, by decide, by decide, mg_eq (by decide) e, mg_eq (by decide) e2, Or.inr (Or.inr (Or.inr ⟨nn, q1, ⟨y1, y2⟩, rfl, rfl⟩))⟩)
                  · first | refine And.intro (fun z => absurd z (by decide)) (fun _ => ?_) | refine And.intro (fun _ => ?_) (fun z => absurd z (by decide))
                    exact h _ _ sc mg_f2.rf (Or.inr ⟨2, 1, by decide, by decide, mg_eq (by decide) e, mg_eq (by decide) e2, Or.inr (Or.inr (Or.inl ⟨nn, q1, fun z => y2 z.2, rfl, rfl⟩))⟩)
                · first | refine And.intro (fun z => absurd z (by decide)) (fun _ => ?_) | refine And.intro (fun _ => ?_) (fun z => absurd z (by decide))
                  exact h _ _ sc mg_f2.rf (Or.inr ⟨2, 1, by decide, by decide, mg_eq (by decide) e, mg_eq (by decide) e2, Or.inr (Or.inr (Or.inl ⟨nn, q1, fun z => y1 z.1, rfl, rfl⟩))⟩)
              · exact h _ _ sc mg_f2.rf (Or.inr ⟨2, 1, by decide, by decide, mg_eq (by decide) e, mg_eq (by decide) e2, Or.inr (Or.inl ⟨nn, q1, rfl, rfl⟩)⟩)
        · refine s_isNothing10 (by omega) (fun n1 => ?_) (fun n1 => ?_)
          · first | refine And.intro (fun z => absurd z (by decide)) (fun _ => ?_) | refine And.intro (fun _ => ?_) (fun z => absurd z (by decide))
            exact h _ _ sc mg_f2.rf (Or.inr ⟨2, 2, by decide, by decide, mg_eq (by decide) e, mg_eq (by decide) e2, Or.inl ⟨Or.inl n1, rfl, rfl⟩⟩)
          · first | refine And.intro (fun z => absurd z (by decide)) (fun _ => ?_) | refine And.intro (fun _ => ?_) (fun z => absurd z (by decide))
            refine s_isNothing10 (by omega) (fun n2 => ?_) (fun n2 => ?_)
            · first | refine And.intro (fun z => absurd z (by decide)) (fun _ => ?_) | refine And.intro (fun _ => ?_) (fun z => absurd z (by decide))
              exact h _ _ sc mg_f2.rf (Or.inr ⟨2, 2, by decide, by decide, mg_eq (by decide) e, mg_eq (by decide) e2, Or.inl ⟨Or.inr n2, rfl, rfl⟩⟩)
            · first | refine And.intro (fun z => absurd z (by decide)) (fun _ => ?_) | refine And.intro (fun _ => ?_) (fun z => absurd z (by decide))
              have nn : ¬ (I 10 1 = -1 ∨ I 10 1 = -1) := fun z => z.elim n1 n2
              refine And.intro (fun q1 => ?_) (fun q1 => ?_)
              · refine s_hasItems10 (by omega) i n (fun y1 => ?_) (fun y1 => ?_)
                · first | refine And.intro (fun z => absurd z (by decide)) (fun _ => ?_) | refine And.intro (fun _ => ?_) (fun z => absurd z (by decide))
                  refine s_hasItems10 (by omega) j n (fun y2 => ?_) (fun y2 => ?_)
                  · first | refine And.intro (fun z => absurd z (by decide)) (fun _ => ?_) | refine And.intro (fun _ => ?_) (fun z => absurd z (by decide))
                    have z1 := mg_has s11.2 y1
                    have z2 := mg_has s11.2 y2
                    have w1 := s11.2.2
                    have w2 := s11.2.2
                    have k1 := mi_cl z1.1
                    have k2 := mi_cl z2.1
                    have k3 := mi_cl z1.2.1
                    have f : mg_f2 [47, 48, 49, 50] [] I (va_up I 49 (va_cpy (I 49) (I 49) i.toNatClampNeg j.toNatClampNeg n.toNatClampNeg)) := mg_f2.up mg_f2.rf rfl
                    refine And.intro (fun z => by rw [mi_lt] at z; have := mi_l; omega) (And.intro (fun z => by rw [mi_lt] at z; have := mi_l; omega) (And.intro (fun z => by rw [mi_lt] at z; have := mi_l; omega) (And.intro (show i.toNatClampNeg + n.toNatClampNeg ≤ 60 by omega) (And.intro (show j.toNatClampNeg + n.toNatClampNeg ≤ 60 by omega) ?_))))
                    exact h _ _ ⟨(show rg (_ : Int32) _ _ by rw [f 0 7 rfl rfl]; exact s1), (show rg (_ : Int32) _ _ by rw [f 1 2 rfl rfl]; exact s2), (show rg (_ : Int32) _ _ by rw [f 1 9 rfl rfl]; exact s3), (show rg (_ : Int32) _ _ by rw [f 2 2 rfl rfl]; exact s4), (show rg (_ : Int32) _ _ by rw [f 3 6 rfl rfl]; exact s5), (fun j => (by rw [f 25 j rfl rfl]; exact s6 j)), (s7.kp (f 4 7 rfl rfl) (f2_fn (c := 31) f rfl (fun _ => rfl)) (f2_fn (c := 32) f rfl (fun _ => rfl)) (f2_fn (c := 33) f rfl (fun _ => rfl))), (s8.kp (f 4 7 rfl rfl) (f2_fn (c := 45) f rfl (fun _ => rfl)) (f2_fn (c := 46) f rfl (fun _ => rfl))), ⟨(show rg (_ : Int32) _ _ by rw [f 8 1 rfl rfl]; exact s9.1), (show rg (_ : Int32) _ _ by rw [f 8 2 rfl rfl]; exact s9.2)⟩, ⟨(show rg (_ : Int32) _ _ by rw [f 9 1 rfl rfl]; exact s10.1), (show rg (_ : Int32) _ _ by rw [f 9 2 rfl rfl]; exact s10.2)⟩, ⟨(show rg (_ : Int32) _ _ by rw [f 10 1 rfl rfl]; exact s11.1), (show rg (_ : Int32) _ _ by rw [f 10 2 rfl rfl]; exact s11.2)⟩, ⟨(show rg (_ : Int32) _ _ by rw [f 11 1 rfl rfl]; exact s12.1), (show rg (_ : Int32) _ _ by rw [f 11 2 rfl rfl]; exact s12.2)⟩⟩ f (Or.inr ⟨2, 2, by decide, by decide, mg_eq (by decide) e, mg_eq (by decide) e2, Or.inr (Or.inr (Or.inr ⟨nn, q1, ⟨y1, y2⟩, rfl, rfl⟩))⟩)
                  · first | refine And.intro (fun z => absurd z (by decide)) (fun _ => ?_) | refine And.intro (fun _ => ?_) (fun z => absurd z (by decide))
                    exact h _ _ sc mg_f2.rf (Or.inr ⟨2, 2, by decide, by decide, mg_eq (by decide) e, mg_eq (by decide) e2, Or.inr (Or.inr (Or.inl ⟨nn, q1, fun z => y2 z.2, rfl, rfl⟩))⟩)
                · first | refine And.intro (fun z => absurd z (by decide)) (fun _ => ?_) | refine And.intro (fun _ => ?_) (fun z => absurd z (by decide))
                  exact h _ _ sc mg_f2.rf (Or.inr ⟨2, 2, by decide, by decide, mg_eq (by decide) e, mg_eq (by decide) e2, Or.inr (Or.inr (Or.inl ⟨nn, q1, fun z => y1 z.1, rfl, rfl⟩))⟩)
              · exact h _ _ sc mg_f2.rf (Or.inr ⟨2, 2, by decide, by decide, mg_eq (by decide) e, mg_eq (by decide) e2, Or.inr (Or.inl ⟨nn, q1, rfl, rfl⟩)⟩)
        · refine s_isNothing10 (by omega) (fun n1 => ?_) (fun n1 => ?_)
          · first | refine And.intro (fun z => absurd z (by decide)) (fun _ => ?_) | refine And.intro (fun _ => ?_) (fun z => absurd z (by decide))
            exact h _ _ sc mg_f2.rf (Or.inr ⟨2, 3, by decide, by decide, mg_eq (by decide) e, mg_eq (by decide) e2, Or.inl ⟨Or.inl n1, rfl, rfl⟩⟩)
          · first | refine And.intro (fun z => absurd z (by decide)) (fun _ => ?_) | refine And.intro (fun _ => ?_) (fun z => absurd z (by decide))
            refine s_isNothing11 (by omega) (fun n2 => ?_) (fun n2 => ?_)
            · first | refine And.intro (fun z => absurd z (by decide)) (fun _ => ?_) | refine And.intro (fun _ => ?_) (fun z => absurd z (by decide))
              exact h _ _ sc mg_f2.rf (Or.inr ⟨2, 3, by decide, by decide, mg_eq (by decide) e, mg_eq (by decide) e2, Or.inl ⟨Or.inr n2, rfl, rfl⟩⟩)
            · first | refine And.intro (fun z => absurd z (by decide)) (fun _ => ?_) | refine And.intro (fun _ => ?_) (fun z => absurd z (by decide))
              have nn : ¬ (I 10 1 = -1 ∨ I 11 1 = -1) := fun z => z.elim n1 n2
              refine And.intro (fun q1 => ?_) (fun q1 => ?_)
              · refine s_hasItems10 (by omega) i n (fun y1 => ?_) (fun y1 => ?_)
                · first | refine And.intro (fun z => absurd z (by decide)) (fun _ => ?_) | refine And.intro (fun _ => ?_) (fun z => absurd z (by decide))
                  refine s_hasItems11 (by omega) j n (fun y2 => ?_) (fun y2 => ?_)
                  · first | refine And.intro (fun z => absurd z (by decide)) (fun _ => ?_) | refine And.intro (fun _ => ?_) (fun z => absurd z (by decide))
                    have z1 := mg_has s11.2 y1
                    have z2 := mg_has s12.2 y2
                    have w1 := s11.2.2
                    have w2 := s12.2.2
                    have k1 := mi_cl z1.1
                    have k2 := mi_cl z2.1
                    have k3 := mi_cl z1.2.1
                    have f : mg_f2 [47, 48, 49, 50] [] I (va_up I 50 (va_cpy (I 49) (I 50) i.toNatClampNeg j.toNatClampNeg n.toNatClampNeg)) := mg_f2.up mg_f2.rf rfl
                    refine And.intro (fun z => by rw [mi_lt] at z; have := mi_l; omega) (And.intro (fun z => by rw [mi_lt] at z; have := mi_l; omega) (And.intro (fun z => by rw [mi_lt] at z; have := mi_l; omega) (And.intro (show i.toNatClampNeg + n.toNatClampNeg ≤ 60 by omega) (And.intro (show j.toNatClampNeg + n.toNatClampNeg ≤ 60 by omega) ?_))))
                    exact h _ _ ⟨(show rg (_ : Int32) _ _ by rw [f 0 7 rfl rfl]; exact s1), (show rg (_ : Int32) _ _ by rw [f 1 2 rfl rfl]; exact s2), (show rg (_ : Int32) _ _ by rw [f 1 9 rfl rfl]; exact s3), (show rg (_ : Int32) _ _ by rw [f 2 2 rfl rfl]; exact s4), (show rg (_ : Int32) _ _ by rw [f 3 6 rfl rfl]; exact s5), (fun j => (by rw [f 25 j rfl rfl]; exact s6 j)), (s7.kp (f 4 7 rfl rfl) (f2_fn (c := 31) f rfl (fun _ => rfl)) (f2_fn (c := 32) f rfl (fun _ => rfl)) (f2_fn (c := 33) f rfl (fun _ => rfl))), (s8.kp (f 4 7 rfl rfl) (f2_fn (c := 45) f rfl (fun _ => rfl)) (f2_fn (c := 46) f rfl (fun _ => rfl))), ⟨(show rg (_ : Int32) _ _ by rw [f 8 1 rfl rfl]; exact s9.1), (show rg (_ : Int32) _ _ by rw [f 8 2 rfl rfl]; exact s9.2)⟩, ⟨(show rg (_ : Int32) _ _ by rw [f 9 1 rfl rfl]; exact s10.1), (show rg (_ : Int32) _ _ by rw [f 9 2 rfl rfl]; exact s10.2)⟩, ⟨(show rg (_ : Int32) _ _ by rw [f 10 1 rfl rfl]; exact s11.1), (show rg (_ : Int32) _ _ by rw [f 10 2 rfl rfl]; exact s11.2)⟩, ⟨(show rg (_ : Int32) _ _ by rw [f 11 1 rfl rfl]; exact s12.1), (show rg (_ : Int32) _ _ by rw [f 11 2 rfl rfl]; exact s12.2)⟩⟩ f (Or.inr ⟨2, 3, by decide, by decide, mg_eq (by decide) e, mg_eq (by decide) e2, Or.inr (Or.inr (Or.inr ⟨nn, q1, ⟨y1, y2⟩, rfl, rfl⟩))⟩)
                  · first | refine And.intro (fun z => absurd z (by decide)) (fun _ => ?_) | refine And.intro (fun _ => ?_) (fun z => absurd z (by decide))
                    exact h _ _ sc mg_f2.rf (Or.inr ⟨2, 3, by decide, by decide, mg_eq (by decide) e, mg_eq (by decide) e2, Or.inr (Or.inr (Or.inl ⟨nn, q1, fun z => y2 z.2, rfl, rfl⟩))⟩)
                · first | refine And.intro (fun z => absurd z (by decide)) (fun _ => ?_) | refine And.intro (fun _ => ?_) (fun z => absurd z (by decide))
                  exact h _ _ sc mg_f2.rf (Or.inr ⟨2, 3, by decide, by decide, mg_eq (by decide) e, mg_eq (by decide) e2, Or.inr (Or.inr (Or.inl ⟨nn, q1, fun z => y1 z.1, rfl, rfl⟩))⟩)
              · exact h _ _ sc mg_f2.rf (Or.inr ⟨2, 3, by decide, by decide, mg_eq (by decide) e, mg_eq (by decide) e2, Or.inr (Or.inl ⟨nn, q1, rfl, rfl⟩)⟩)
      · refine And.intro B2 (And.intro (fun e2 => ?_) (And.intro (fun e2 => ?_) (And.intro (fun e2 => ?_) (fun e2 => ?_))))
        · refine s_isNothing11 (by omega) (fun n1 => ?_) (fun n1 => ?_)
          · first | refine And.intro (fun z => absurd z (by decide)) (fun _ => ?_) | refine And.intro (fun _ => ?_) (fun z => absurd z (by decide))
            exact h _ _ sc mg_f2.rf (Or.inr ⟨3, 0, by decide, by decide, mg_eq (by decide) e, mg_eq (by decide) e2, Or.inl ⟨Or.inl n1, rfl, rfl⟩⟩)
          · first | refine And.intro (fun z => absurd z (by decide)) (fun _ => ?_) | refine And.intro (fun _ => ?_) (fun z => absurd z (by decide))
            refine s_isNothing8 (by omega) (fun n2 => ?_) (fun n2 => ?_)
            · first | refine And.intro (fun z => absurd z (by decide)) (fun _ => ?_) | refine And.intro (fun _ => ?_) (fun z => absurd z (by decide))
              exact h _ _ sc mg_f2.rf (Or.inr ⟨3, 0, by decide, by decide, mg_eq (by decide) e, mg_eq (by decide) e2, Or.inl ⟨Or.inr n2, rfl, rfl⟩⟩)
            · first | refine And.intro (fun z => absurd z (by decide)) (fun _ => ?_) | refine And.intro (fun _ => ?_) (fun z => absurd z (by decide))
              have nn : ¬ (I 11 1 = -1 ∨ I 8 1 = -1) := fun z => z.elim n1 n2
              refine And.intro (fun q1 => ?_) (fun q1 => ?_)
              · refine s_hasItems11 (by omega) i n (fun y1 => ?_) (fun y1 => ?_)
                · first | refine And.intro (fun z => absurd z (by decide)) (fun _ => ?_) | refine And.intro (fun _ => ?_) (fun z => absurd z (by decide))
                  refine s_hasItems8 (by omega) j n (fun y2 => ?_) (fun y2 => ?_)
                  · first | refine And.intro (fun z => absurd z (by decide)) (fun _ => ?_) | refine And.intro (fun _ => ?_) (fun z => absurd z (by decide))
                    have z1 := mg_has s12.2 y1
                    have z2 := mg_has s9.2 y2
                    have w1 := s12.2.2
                    have w2 := s9.2.2
                    have k1 := mi_cl z1.1
                    have k2 := mi_cl z2.1
                    have k3 := mi_cl z1.2.1
                    have f : mg_f2 [47, 48, 49, 50] [] I (va_up I 47 (va_cpy (I 50) (I 47) i.toNatClampNeg j.toNatClampNeg n.toNatClampNeg)) := mg_f2.up mg_f2.rf rfl
                    refine And.intro (fun z => by rw [mi_lt] at z; have := mi_l; omega) (And.intro (fun z => by rw [mi_lt] at z; have := mi_l; omega) (And.intro (fun z => by rw [mi_lt] at z; have := mi_l; omega) (And.intro (show i.toNatClampNeg + n.toNatClampNeg ≤ 60 by omega) (And.intro (show j.toNatClampNeg + n.toNatClampNeg ≤ 60 by omega) ?_))))
                    exact h _ _ ⟨(show rg (_ : Int32) _ _ by rw [f 0 7 rfl rfl]; exact s1), (show rg (_ : Int32) _ _ by rw [f 1 2 rfl rfl]; exact s2), (show rg (_ : Int32) _ _ by rw [f 1 9 rfl rfl]; exact s3), (show rg (_ : Int32) _ _ by rw [f 2 2 rfl rfl]; exact s4), (show rg (_ : Int32) _ _ by rw [f 3 6 rfl rfl]; exact s5), (fun j => (by rw [f 25 j rfl rfl]; exact s6 j)), (s7.kp (f 4 7 rfl rfl) (f2_fn (c := 31) f rfl (fun _ => rfl)) (f2_fn (c := 32) f rfl (fun _ => rfl)) (f2_fn (c := 33) f rfl (fun _ => rfl))), (s8.kp (f 4 7 rfl rfl) (f2_fn (c := 45) f rfl (fun _ => rfl)) (f2_fn (c := 46) f rfl (fun _ => rfl))), ⟨(show rg (_ : Int32) _ _ by rw [f 8 1 rfl rfl]; exact s9.1), (show rg (_ : Int32) _ _ by rw [f 8 2 rfl rfl]; exact s9.2)⟩, ⟨(show rg (_ : Int32) _ _ by rw [f 9 1 rfl rfl]; exact s10.1), (show rg (_ : Int32) _ _ by rw [f 9 2 rfl rfl]; exact s10.2)⟩, ⟨(show rg (_ : Int32) _ _ by rw [f 10 1 rfl rfl]; exact s11.1), (show rg (_ : Int32) _ _ by rw [f 10 2 rfl rfl]; exact s11.2)⟩, ⟨(show rg (_ : Int32) _ _ by rw [f 11 1 rfl rfl]; exact s12.1), (show rg (_ : Int32) _ _ by rw [f 11 2 rfl rfl]; exact s12.2)⟩⟩ f (Or.inr ⟨3, 0, by decide, by decide, mg_eq (by decide) e, mg_eq (by decide) e2, Or.inr (Or.inr (Or.inr ⟨nn, q1, ⟨y1, y2⟩, rfl, rfl⟩))⟩)
                  · first | refine And.intro (fun z => absurd z (by decide)) (fun _ => ?_) | refine And.intro (fun _ => ?_) (fun z => absurd z (by decide))
                    exact h _ _ sc mg_f2.rf (Or.inr ⟨3, 0, by decide, by decide, mg_eq (by decide) e, mg_eq (by decide) e2, Or.inr (Or.inr (Or.inl ⟨nn, q1, fun z => y2 z.2, rfl, rfl⟩))⟩)
                · first | refine And.intro (fun z => absurd z (by decide)) (fun _ => ?_) | refine And.intro (fun _ => ?_) (fun z => absurd z (by decide))
                  exact h _ _ sc mg_f2.rf (Or.inr ⟨3, 0, by decide, by decide, mg_eq (by decide) e, mg_eq (by decide) e2, Or.inr (Or.inr (Or.inl ⟨nn, q1, fun z => y1 z.1, rfl, rfl⟩))⟩)
              · exact h _ _ sc mg_f2.rf (Or.inr ⟨3, 0, by decide, by decide, mg_eq (by decide) e, mg_eq (by decide) e2, Or.inr (Or.inl ⟨nn, q1, rfl, rfl⟩)⟩)
        · refine s_isNothing11 (by omega) (fun n1 => ?_) (fun n1 => ?_)
          · first | refine And.intro (fun z => absurd z (by decide)) (fun _ => ?_) | refine And.intro (fun _ => ?_) (fun z => absurd z (by decide))
            exact h _ _ sc mg_f2.rf (Or.inr ⟨3, 1, by decide, by decide, mg_eq (by decide) e, mg_eq (by decide) e2, Or.inl ⟨Or.inl n1, rfl, rfl⟩⟩)
          · first | refine And.intro (fun z => absurd z (by decide)) (fun _ => ?_) | refine And.intro (fun _ => ?_) (fun z => absurd z (by decide))
            refine s_isNothing9 (by omega) (fun n2 => ?_) (fun n2 => ?_)
            · first | refine And.intro (fun z => absurd z (by decide)) (fun _ => ?_) | refine And.intro (fun _ => ?_) (fun z => absurd z (by decide))
              exact h _ _ sc mg_f2.rf (Or.inr ⟨3, 1, by decide, by decide, mg_eq (by decide) e, mg_eq (by decide) e2, Or.inl ⟨Or.inr n2, rfl, rfl⟩⟩)
            · first | refine And.intro (fun z => absurd z (by decide)) (fun _ => ?_) | refine And.intro (fun _ => ?_) (fun z => absurd z (by decide))
              have nn : ¬ (I 11 1 = -1 ∨ I 9 1 = -1) := fun z => z.elim n1 n2
              refine And.intro (fun q1 => ?_) (fun q1 => ?_)
              · refine s_hasItems11 (by omega) i n (fun y1 => ?_) (fun y1 => ?_)
                · first | refine And.intro (fun z => absurd z (by decide)) (fun _ => ?_) | refine And.intro (fun _ => ?_) (fun z => absurd z (by decide))
                  refine s_hasItems9 (by omega) j n (fun y2 => ?_) (fun y2 => ?_)
                  · first | refine And.intro (fun z => absurd z (by decide)) (fun _ => ?_) | refine And.intro (fun _ => ?_) (fun z => absurd z (by decide))
                    have z1 := mg_has s12.2 y1
                    have z2 := mg_has s10.2 y2
                    have w1 := s12.2.2
                    have w2 := s10.2.2
                    have k1 := mi_cl z1.1
                    have k2 := mi_cl z2.1
                    have k3 := mi_cl z1.2.1
                    have f : mg_f2 [47, 48, 49, 50] [] I (va_up I 48 (va_cpy (I 50) (I 48) i.toNatClampNeg j.toNatClampNeg n.toNatClampNeg)) := mg_f2.up mg_f2.rf rfl
                    refine And.intro (fun z => by rw [mi_lt] at z; have := mi_l; omega) (And.intro (fun z => by rw [mi_lt] at z; have := mi_l; omega) (And.intro (fun z => by rw [mi_lt] at z; have := mi_l; omega) (And.intro (show i.toNatClampNeg + n.toNatClampNeg ≤ 60 by omega) (And.intro (show j.toNatClampNeg + n.toNatClampNeg ≤ 60 by omega) ?_))))
                    exact h _ _ ⟨(show rg (_ : Int32) _ _ by rw [f 0 7 rfl rfl]; exact s1), (show rg (_ : Int32) _ _ by rw [f 1 2 rfl rfl]; exact s2), (show rg (_ : Int32) _ _ by rw [f 1 9 rfl rfl]; exact s3), (show rg (_ : Int32) _ _ by rw [f 2 2 rfl rfl]; exact s4), (show rg (_ : Int32) _ _ by rw [f 3 6 rfl rfl]; exact s5), (fun j => (by rw [f 25 j rfl rfl]; exact s6 j)), (s7.kp (f 4 7 rfl rfl) (f2_fn (c := 31) f rfl (fun _ => rfl)) (f2_fn (c := 32) f rfl (fun _ => rfl)) (f2_fn (c := 33) f rfl (fun _ => rfl))), (s8.kp (f 4 7 rfl rfl) (f2_fn (c := 45) f rfl (fun _ => rfl)) (f2_fn (c := 46) f rfl (fun _ => rfl))), ⟨(show rg (_ : Int32) _ _ by rw [f 8 1 rfl rfl]; exact s9.1), (show rg (_ : Int32) _ _ by rw [f 8 2 rfl rfl]; exact s9.2)⟩, ⟨(show rg (_ : Int32) _ _ by rw [f 9 1 rfl rfl]; exact s10.1), (show rg (_ : Int32) _ _ by rw [f 9 2 rfl rfl]; exact s10.2)⟩, ⟨(show rg (_ : Int32) _ _ by rw [f 10 1 rfl rfl]; exact s11.1), (show rg (_ : Int32) _ _ by rw [f 10 2 rfl rfl]; exact s11.2)⟩, ⟨(show rg (_ : Int32) _ _ by rw [f 11 1 rfl rfl]; exact s12.1), (show rg (_ : Int32) _ _ by rw [f 11 2 rfl rfl]; exact s12.2)⟩⟩ f (Or.inr ⟨3, 1, by decide, by decide, mg_eq (by decide) e, mg_eq (by decide) e2, Or.inr (Or.inr (Or.inr ⟨nn, q1, ⟨y1, y2⟩, rfl, rfl⟩))⟩)
                  · first | refine And.intro (fun z => absurd z (by decide)) (fun _ => ?_) | refine And.intro (fun _ => ?_) (fun z => absurd z (by decide))
                    exact h _ _ sc mg_f2.rf (Or.inr ⟨3, 1, by decide, by decide, mg_eq (by decide) e, mg_eq (by decide) e2, Or.inr (Or.inr (Or.inl ⟨nn, q1, fun z => y2 z.2, rfl, rfl⟩))⟩)
                · first | refine And.intro (fun z => absurd z (by decide)) (fun _ => ?_) | refine And.intro (fun _ => ?_) (fun z => absurd z (by decide))
                  exact h _ _ sc mg_f2.rf (Or.inr ⟨3, 1, by decide, by decide, mg_eq (by decide) e, mg_eq (by decide) e2, Or.inr (Or.inr (Or.inl ⟨nn, q1, fun z => y1 z.1, rfl, rfl⟩))⟩)
              · exact h _ _ sc mg_f2.rf (Or.inr ⟨3, 1, by decide, by decide, mg_eq (by decide) e, mg_eq (by decide) e2, Or.inr (Or.inl ⟨nn, q1, rfl, rfl⟩)⟩)
        · refine s_isNothing11 (by omega) (fun n1 => ?_) (fun n1 => ?_)
          · first | refine And.intro (fun z => absurd z (by decide)) (fun _ => ?_) | refine And.intro (fun _ => ?_) (fun z => absurd z (by decide))
            exact h _ _ sc mg_f2.rf (Or.inr ⟨3, 2, by decide, by decide, mg_eq (by decide) e, mg_eq (by decide) e2, Or.inl ⟨Or.inl n1, rfl, rfl⟩⟩)
          · first | refine And.intro (fun z => absurd z (by decide)) (fun _ => ?_) | refine And.intro (fun _ => ?_) (fun z => absurd z (by decide))
            refine s_isNothing10 (by omega) (fun n2 => ?_) (fun n2 => ?_)
            · first | refine And.intro (fun z => absurd z (by decide)) (fun _ => ?_) | refine And.intro (fun _ => ?_) (fun z => absurd z (by decide))
              exact h _ _ sc mg_f2.rf (Or.inr ⟨3, 2, by decide, by decide, mg_eq (by decide) e, mg_eq (by decide) e2, Or.inl ⟨Or.inr n2, rfl, rfl⟩⟩)
            · first | refine And.intro (fun z => absurd z (by decide)) (fun _ => ?_) | refine And.intro (fun _ => ?_) (fun z => absurd z (by decide))
              have nn : ¬ (I 11 1 = -1 ∨ I 10 1 = -1) := fun z => z.elim n1 n2
              refine And.intro (fun q1 => ?_) (fun q1 => ?_)
              · refine s_hasItems11 (by omega) i n (fun y1 => ?_) (fun y1 => ?_)
                · first | refine And.intro (fun z => absurd z (by decide)) (fun _ => ?_) | refine And.intro (fun _ => ?_) (fun z => absurd z (by decide))
                  refine s_hasItems10 (by omega) j n (fun y2 => ?_) (fun y2 => ?_)
                  · first | refine And.intro (fun z => absurd z (by decide)) (fun _ => ?_) | refine And.intro (fun _ => ?_) (fun z => absurd z (by decide))
                    have z1 := mg_has s12.2 y1
                    have z2 := mg_has s11.2 y2
                    have w1 := s12.2.2
                    have w2 := s11.2.2
                    have k1 := mi_cl z1.1
                    have k2 := mi_cl z2.1
                    have k3 := mi_cl z1.2.1
                    have f : mg_f2 [47, 48, 49, 50] [] I (va_up I 49 (va_cpy (I 50) (I 49) i.toNatClampNeg j.toNatClampNeg n.toNatClampNeg)) := mg_f2.up mg_f2.rf rfl
                    refine And.intro (fun z => by rw [mi_lt] at z; have := mi_l; omega) (And.intro (fun z => by rw [mi_lt] at z; have := mi_l; omega) (And.intro (fun z => by rw [mi_lt] at z; have := mi_l; omega) (And.intro (show i.toNatClampNeg + n.toNatClampNeg ≤ 60 by omega) (And.intro (show j.toNatClampNeg + n.toNatClampNeg ≤ 60 by omega) ?_))))
                    exact h _ _ ⟨(show rg (_ : Int32) _ _ by rw [f 0 7 rfl rfl]; exact s1), (show rg (_ : Int32) _ _ by rw [f 1 2 rfl rfl]; exact s2), (show rg (_ : Int32) _ _ by rw [f 1 9 rfl rfl]; exact s3), (show rg (_ : Int32) _ _ by rw [f 2 2 rfl rfl]; exact s4), (show rg (_ : Int32) _ _ by rw [f 3 6 rfl rfl]; exact s5), (fun j => (by rw [f 25 j rfl rfl]; exact s6 j)), (s7.kp (f 4 7 rfl rfl) (f2_fn (c := 31) f rfl (fun _ => rfl)) (f2_fn (c := 32) f rfl (fun _ => rfl)) (f2_fn (c := 33) f rfl (fun _ => rfl))), (s8.kp (f 4 7 rfl rfl) (f2_fn (c := 45) f rfl (fun _ => rfl)) (f2_fn (c := 46) f rfl (fun _ => rfl))), ⟨(show rg (_ : Int32) _ _ by rw [f 8 1 rfl rfl]; exact s9.1), (show rg (_ : Int32) _ _ by rw [f 8 2 rfl rfl]; exact s9.2)⟩, ⟨(show rg (_ : Int32) _ _ by rw [f 9 1 rfl rfl]; exact s10.1), (show rg (_ : Int32) _ _ by rw [f 9 2 rfl rfl]; exact s10.2)⟩, ⟨(show rg (_ : Int32) _ _ by rw [f 10 1 rfl rfl]; exact s11.1), (show rg (_ : Int32) _ _ by rw [f 10 2 rfl rfl]; exact s11.2)⟩, ⟨(show rg (_ : Int32) _ _ by rw [f 11 1 rfl rfl]; exact s12.1), (show rg (_ : Int32) _ _ by rw [f 11 2 rfl rfl]; exact s12.2)⟩⟩ f (Or.inr ⟨3, 2, by decide, by decide, mg_eq (by decide) e, mg_eq (by decide) e2, Or.inr (Or.inr (Or.inr ⟨nn, q1, ⟨y1, y2⟩, rfl, rfl⟩))⟩)
                  · first | refine And.intro (fun z => absurd z (by decide)) (fun _ => ?_) | refine And.intro (fun _ => ?_) (fun z => absurd z (by decide))
                    exact h _ _ sc mg_f2.rf (Or.inr ⟨3, 2, by decide, by decide, mg_eq (by decide) e, mg_eq (by decide) e2, Or.inr (Or.inr (Or.inl ⟨nn, q1, fun z => y2 z.2, rfl, rfl⟩))⟩)
                · first | refine And.intro (fun z => absurd z (by decide)) (fun _ => ?_) | refine And.intro (fun _ => ?_) (fun z => absurd z (by decide))
                  exact h _ _ sc mg_f2.rf (Or.inr ⟨3, 2, by decide, by decide, mg_eq (by decide) e, mg_eq (by decide) e2, Or.inr (Or.inr (Or.inl ⟨nn, q1, fun z => y1 z.1, rfl, rfl⟩))⟩)
              · exact h _ _ sc mg_f2.rf (Or.inr ⟨3, 2, by decide, by decide, mg_eq (by decide) e, mg_eq (by decide) e2, Or.inr (Or.inl ⟨nn, q1, rfl, rfl⟩)⟩)
        · refine s_isNothing11 (by omega) (fun n1 => ?_) (fun n1 => ?_)
          · first | refine And.intro (fun z => absurd z (by decide)) (fun _ => ?_) | refine And.intro (fun _ => ?_) (fun z => absurd z (by decide))
            exact h _ _ sc mg_f2.rf (Or.inr ⟨3, 3, by decide, by decide, mg_eq (by decide) e, mg_eq (by decide) e2, Or.inl ⟨Or.inl n1, rfl, rfl⟩⟩)
          · first | refine And.intro (fun z => absurd z (by decide)) (fun _ => ?_) | refine And.intro (fun _ => ?_) (fun z => absurd z (by decide))
            refine s_isNothing11 (by omega) (fun n2 => ?_) (fun n2 => ?_)
            · first | refine And.intro (fun z => absurd z (by decide)) (fun _ => ?_) | refine And.intro (fun _ => ?_) (fun z => absurd z (by decide))
              exact h _ _ sc mg_f2.rf (Or.inr ⟨3, 3, by decide, by decide, mg_eq (by decide) e, mg_eq (by decide) e2, Or.inl ⟨Or.inr n2, rfl, rfl⟩⟩)
            · first | refine And.intro (fun z => absurd z (by decide)) (fun _ => ?_) | refine And.intro (fun _ => ?_) (fun z => absurd z (by decide))
              have nn : ¬ (I 11 1 = -1 ∨ I 11 1 = -1) := fun z => z.elim n1 n2
              refine And.intro (fun q1 => ?_) (fun q1 => ?_)
              · refine s_hasItems11 (by omega) i n (fun y1 => ?_) (fun y1 => ?_)
                · first | refine And.intro (fun z => absurd z (by decide)) (fun _ => ?_) | refine And.intro (fun _ => ?_) (fun z => absurd z (by decide))
                  refine s_hasItems11 (by omega) j n (fun y2 => ?_) (fun y2 => ?_)
                  · first | refine And.intro (fun z => absurd z (by decide)) (fun _ => ?_) | refine And.intro (fun _ => ?_) (fun z => absurd z (by decide))
                    have z1 := mg_has s12.2 y1
                    have z2 := mg_has s12.2 y2
                    have w1 := s12.2.2
                    have w2 := s12.2.2
                    have k1 := mi_cl z1.1
                    have k2 := mi_cl z2.1
                    have k3 := mi_cl z1.2.1
                    have f : mg_f2 [47, 48, 49, 50] [] I (va_up I 50 (va_cpy (I 50) (I 50) i.toNatClampNeg j.toNatClampNeg n.toNatClampNeg)) := mg_f2.up mg_f2.rf rfl
                    refine And.intro (fun z => by rw [mi_lt] at z; have := mi_l; omega) (And.intro (fun z => by rw [mi_lt] at z; have := mi_l; omega) (And.intro (fun z => by rw [mi_lt] at z; have := mi_l; omega) (And.intro (show i.toNatClampNeg + n.toNatClampNeg ≤ 60 by omega) (And.intro (show j.toNatClampNeg + n.toNatClampNeg ≤ 60 by omega) ?_))))
                    exact h _ _ ⟨(show rg (_ : Int32) _ _ by rw [f 0 7 rfl rfl]; exact s1), (show rg (_ : Int32) _ _ by rw [f 1 2 rfl rfl]; exact s2), (show rg (_ : Int32) _ _ by rw [f 1 9 rfl rfl]; exact s3), (show rg (_ : Int32) _ _ by rw [f 2 2 rfl rfl]; exact s4), (show rg (_ : Int32) _ _ by rw [f 3 6 rfl rfl]; exact s5), (fun j => (by rw [f 25 j rfl rfl]; exact s6 j)), (s7.kp (f 4 7 rfl rfl) (f2_fn (c := 31) f rfl (fun _ => rfl)) (f2_fn (c := 32) f rfl (fun _ => rfl)) (f2_fn (c := 33) f rfl (fun _ => rfl))), (s8.kp (f 4 7 rfl rfl) (f2_fn (c := 45) f rfl (fun _ => rfl)) (f2_fn (c := 46) f rfl (fun _ => rfl))), ⟨(show rg (_ : Int32) _ _ by rw [f 8 1 rfl rfl]; exact s9.1), (show rg (_ : Int32) _ _ by rw [f 8 2 rfl rfl]; exact s9.2)⟩, ⟨(show rg (_ : Int32) _ _ by rw [f 9 1 rfl rfl]; exact s10.1), (show rg (_ : Int32) _ _ by rw [f 9 2 rfl rfl]; exact s10.2)⟩, ⟨(show rg (_ : Int32) _ _ by rw [f 10 1 rfl rfl]; exact s11.1), (show rg (_ : Int32) _ _ by rw [f 10 2 rfl rfl]; exact s11.2)⟩, ⟨(show rg (_ : Int32) _ _ by rw [f 11 1 rfl rfl]; exact s12.1), (show rg (_ : Int32) _ _ by rw [f 11 2 rfl rfl]; exact s12.2)⟩⟩ f (Or.inr ⟨3, 3, by decide, by decide, mg_eq (by decide) e, mg_eq (by decide) e2, Or.inr (Or.inr (Or.inr ⟨nn, q1, ⟨y1, y2⟩, rfl, rfl⟩))⟩)
                  · first | refine And.intro (fun z => absurd z (by decide)) (fun _ => ?_) | refine And.intro (fun _ => ?_) (fun z => absurd z (by decide))
                    exact h _ _ sc mg_f2.rf (Or.inr ⟨3, 3, by decide, by decide, mg_eq (by decide) e, mg_eq (by decide) e2, Or.inr (Or.inr (Or.inl ⟨nn, q1, fun z => y2 z.2, rfl, rfl⟩))⟩)
                · first | refine And.intro (fun z => absurd z (by decide)) (fun _ => ?_) | refine And.intro (fun _ => ?_) (fun z => absurd z (by decide))
                  exact h _ _ sc mg_f2.rf (Or.inr ⟨3, 3, by decide, by decide, mg_eq (by decide) e, mg_eq (by decide) e2, Or.inr (Or.inr (Or.inl ⟨nn, q1, fun z => y1 z.1, rfl, rfl⟩))⟩)
              · exact h _ _ sc mg_f2.rf (Or.inr ⟨3, 3, by decide, by decide, mg_eq (by decide) e, mg_eq (by decide) e2, Or.inr (Or.inl ⟨nn, q1, rfl, rfl⟩)⟩)
    · first | refine And.intro (fun z => absurd z (by decide)) (fun _ => ?_) | refine And.intro (fun _ => ?_) (fun z => absurd z (by decide))
      exact h _ _ sc mg_f2.rf (Or.inl ⟨fun z => p2 z.2, rfl, rfl⟩)
  · first | refine And.intro (fun z => absurd z (by decide)) (fun _ => ?_) | refine And.intro (fun _ => ?_) (fun z => absurd z (by decide))
    exact h _ _ sc mg_f2.rf (Or.inl ⟨fun z => p1 z.1, rfl, rfl⟩)

set_option maxHeartbeats 1000000 in
theorem F_surf {d : Nat} (hd : 5 ≤ d) (a b c i n : Int32) {I : mv_I} {J : mv_J} {Q : mv_Q} (sc : SC I) (h : ∀ (r : Int32) (I' : mv_I), SC I' → mg_f2 [38] [] I I' → sp_surf a b c i n I r I' → Q (some (.inl r)) I' J) : mv_wpM mv_tab mv_sh d 69 [.inr (.inr 0), .inl a, .inl b, .inl c, .inl i, .inl n] I J Q := by
  obtain ⟨d, rfl⟩ : ∃ e, d = e + 1 := ⟨d - 1, by omega⟩
  refine (show ∃ fu9, mv_wp (mv_wpM mv_tab mv_sh d) mv_sh none tbX7_surf flX7 csX7 1 (fun _ _ _ _ _ => False) Q fu9 0 [some (.inr (.inr 0)), some (.inl a), some (.inl b), some (.inl c), some (.inl i), some (.inl n), none, none] [] I J from ?_)
  refine ⟨120, ?_⟩
  obtain ⟨s1, s2, s3, s4, s5, s6, s7, s8, s9, s10, s11, s12⟩ := id sc
  refine c_isDay (by omega) a (fun p0 => ?_) (fun p0 => ?_)
  · first | refine And.intro (fun z => absurd z (by decide)) (fun _ => ?_) | refine And.intro (fun _ => ?_) (fun z => absurd z (by decide))
    refine c_isSheet (by omega) b (fun p1 => ?_) (fun p1 => ?_)
    · first | refine And.intro (fun z => absurd z (by decide)) (fun _ => ?_) | refine And.intro (fun _ => ?_) (fun z => absurd z (by decide))
      have B : vp_in b 4 := vp_in_iff.mpr ⟨(mg_le p1).1, by have := (mg_le p1).2; have : (3 : Int32).toInt = 3 := (by decide); omega⟩
      refine c_isLane (by omega) c (fun p2 => ?_) (fun p2 => ?_)
      · first | refine And.intro (fun z => absurd z (by decide)) (fun _ => ?_) | refine And.intro (fun _ => ?_) (fun z => absurd z (by decide))
        refine c_isWithin (by omega) n 0 _ (fun p3 => ?_) (fun p3 => ?_)
        · first | refine And.intro (fun z => absurd z (by decide)) (fun _ => ?_) | refine And.intro (fun _ => ?_) (fun z => absurd z (by decide))
          have ok : ok_surf a b c n := ⟨p0, p1, p2, p3⟩
          have hday : rg a 0 59 := mg_le p0
          have hday0 := hday.1
          have hday1 := hday.2
          have ka := mi_cl hday0
          have c60 : (60 : Int32).toInt = 60 := by decide
          have e6 : (60 - a).toInt = 60 - a.toInt := by rw [mi_sub (by omega) (by omega), c60]
          have hn : n.toInt ≤ 60 - a.toInt := by have z := (mg_le p3).2; rw [e6] at z; exact z
          refine And.intro B (And.intro (fun e => ?_) (And.intro (fun e => ?_) (And.intro (fun e => ?_) (fun e => ?_))))
          · refine s_faultAs8 (by omega) c i n ?_
            refine And.intro (fun q => ?_) (fun q => ?_)
            · have z := mg_has s9.2 (v_fault0 q).1
              have w := s9.2.2
              have k1 := mi_cl z.1
              have k2 := mi_cl z.2.1
              refine s_above8 (by omega) 9 i n z.1 z.2.1 (by omega) (fun y => ?_) (fun y => ?_)
              · first | refine And.intro (fun z => absurd z (by decide)) (fun _ => ?_) | refine And.intro (fun _ => ?_) (fun z => absurd z (by decide))
                exact h _ _ sc mg_f2.rf (Or.inr ⟨ok, 0, by decide, mg_eq (by decide) e, Or.inr (Or.inl ⟨q, y, rfl, rfl⟩)⟩)
              · first | refine And.intro (fun z => absurd z (by decide)) (fun _ => ?_) | refine And.intro (fun _ => ?_) (fun z => absurd z (by decide))
                have f : mg_f2 [38] [] I (va_up I 38 (va_cpy (I 47) (I 38) i.toNatClampNeg a.toNatClampNeg n.toNatClampNeg)) := mg_f2.up mg_f2.rf rfl
                refine And.intro (fun z => by rw [mi_lt] at z; have := mi_l; omega) (And.intro (fun z => by rw [mi_lt] at z; have := mi_l; omega) (And.intro (fun z => by rw [mi_lt] at z; have := mi_l; omega) (And.intro (show i.toNatClampNeg + n.toNatClampNeg ≤ 60 by omega) (And.intro (show a.toNatClampNeg + n.toNatClampNeg ≤ 60 by omega) ?_))))
                exact h _ _ ⟨(show rg (_ : Int32) _ _ by rw [f 0 7 rfl rfl]; exact s1), (show rg (_ : Int32) _ _ by rw [f 1 2 rfl rfl]; exact s2), (show rg (_ : Int32) _ _ by rw [f 1 9 rfl rfl]; exact s3), (show rg (_ : Int32) _ _ by rw [f 2 2 rfl rfl]; exact s4), (show rg (_ : Int32) _ _ by rw [f 3 6 rfl rfl]; exact s5), (fun j => (by rw [f 25 j rfl rfl]; exact s6 j)), (s7.kp (f 4 7 rfl rfl) (f2_fn (c := 31) f rfl (fun _ => rfl)) (f2_fn (c := 32) f rfl (fun _ => rfl)) (f2_fn (c := 33) f rfl (fun _ => rfl))), (s8.kp (f 4 7 rfl rfl) (f2_fn (c := 45) f rfl (fun _ => rfl)) (f2_fn (c := 46) f rfl (fun _ => rfl))), ⟨(show rg (_ : Int32) _ _ by rw [f 8 1 rfl rfl]; exact s9.1), (show rg (_ : Int32) _ _ by rw [f 8 2 rfl rfl]; exact s9.2)⟩, ⟨(show rg (_ : Int32) _ _ by rw [f 9 1 rfl rfl]; exact s10.1), (show rg (_ : Int32) _ _ by rw [f 9 2 rfl rfl]; exact s10.2)⟩, ⟨(show rg (_ : Int32) _ _ by rw [f 10 1 rfl rfl]; exact s11.1), (show rg (_ : Int32) _ _ by rw [f 10 2 rfl rfl]; exact s11.2)⟩, ⟨(show rg (_ : Int32) _ _ by rw [f 11 1 rfl rfl]; exact s12.1), (show rg (_ : Int32) _ _ by rw [f 11 2 rfl rfl]; exact s12.2)⟩⟩ f (Or.inr ⟨ok, 0, by decide, mg_eq (by decide) e, Or.inr (Or.inr ⟨q, y, rfl, rfl⟩)⟩)
            · exact h _ _ sc mg_f2.rf (Or.inr ⟨ok, 0, by decide, mg_eq (by decide) e, Or.inl ⟨q, rfl, rfl⟩⟩)
          · refine s_faultAs9 (by omega) c i n ?_
            refine And.intro (fun q => ?_) (fun q => ?_)
            · have z := mg_has s10.2 (v_fault0 q).1
              have w := s10.2.2
              have k1 := mi_cl z.1
              have k2 := mi_cl z.2.1
              refine s_above9 (by omega) 9 i n z.1 z.2.1 (by omega) (fun y => ?_) (fun y => ?_)
              · first | refine And.intro (fun z => absurd z (by decide)) (fun _ => ?_) | refine And.intro (fun _ => ?_) (fun z => absurd z (by decide))
                exact h _ _ sc mg_f2.rf (Or.inr ⟨ok, 1, by decide, mg_eq (by decide) e, Or.inr (Or.inl ⟨q, y, rfl, rfl⟩)⟩)
              · first | refine And.intro (fun z => absurd z (by decide)) (fun _ => ?_) | refine And.intro (fun _ => ?_) (fun z => absurd z (by decide))
                have f : mg_f2 [38] [] I (va_up I 38 (va_cpy (I 48) (I 38) i.toNatClampNeg a.toNatClampNeg n.toNatClampNeg)) := mg_f2.up mg_f2.rf rfl
                refine And.intro (fun z => by rw [mi_lt] at z; have := mi_l; omega) (And.intro (fun z => by rw [mi_lt] at z; have := mi_l; omega) (And.intro (fun z => by rw [mi_lt] at z; have := mi_l; omega) (And.intro (show i.toNatClampNeg + n.toNatClampNeg ≤ 60 by omega) (And.intro (show a.toNatClampNeg + n.toNatClampNeg ≤ 60 by omega) ?_))))
                exact h _ _ ⟨(show rg (_ : Int32) _ _ by rw [f 0 7 rfl rfl]; exact s1), (show rg (_ : Int32) _ _ by rw [f 1 2 rfl rfl]; exact s2), (show rg (_ : Int32) _ _ by rw [f 1 9 rfl rfl]; exact s3), (show rg (_ : Int32) _ _ by rw [f 2 2 rfl rfl]; exact s4), (show rg (_ : Int32) _ _ by rw [f 3 6 rfl rfl]; exact s5), (fun j => (by rw [f 25 j rfl rfl]; exact s6 j)), (s7.kp (f 4 7 rfl rfl) (f2_fn (c := 31) f rfl (fun _ => rfl)) (f2_fn (c := 32) f rfl (fun _ => rfl)) (f2_fn (c := 33) f rfl (fun _ => rfl))), (s8.kp (f 4 7 rfl rfl) (f2_fn (c := 45) f rfl (fun _ => rfl)) (f2_fn (c := 46) f rfl (fun _ => rfl))), ⟨(show rg (_ : Int32) _ _ by rw [f 8 1 rfl rfl]; exact s9.1), (show rg (_ : Int32) _ _ by rw [f 8 2 rfl rfl]; exact s9.2)⟩, ⟨(show rg (_ : Int32) _ _ by rw [f 9 1 rfl rfl]; exact s10.1), (show rg (_ : Int32) _ _ by rw [f 9 2 rfl rfl]; exact s10.2)⟩, ⟨(show rg (_ : Int32) _ _ by rw [f 10 1 rfl rfl]; exact s11.1), (show rg (_ : Int32) _ _ by rw [f 10 2 rfl rfl]; exact s11.2)⟩, ⟨(show rg (_ : Int32) _ _ by rw [f 11 1 rfl rfl]; exact s12.1), (show rg (_ : Int32) _ _ by rw [f 11 2 rfl rfl]; exact s12.2)⟩⟩ f (Or.inr ⟨ok, 1, by decide, mg_eq (by decide) e, Or.inr (Or.inr ⟨q, y, rfl, rfl⟩)⟩)
            · exact h _ _ sc mg_f2.rf (Or.inr ⟨ok, 1, by decide, mg_eq (by decide) e, Or.inl ⟨q, rfl, rfl⟩⟩)
          · refine s_faultAs10 (by omega) c i n ?_
            refine And.intro (fun q => ?_) (fun q => ?_)
            · have z := mg_has s11.2 (v_fault0 q).1
              have w := s11.2.2
              have k1 := mi_cl z.1
              have k2 := mi_cl z.2.1
              refine s_above10 (by omega) 9 i n z.1 z.2.1 (by omega) (fun y => ?_) (fun y => ?_)
              · first | refine And.intro (fun z => absurd z (by decide)) (fun _ => ?_) | refine And.intro (fun _ => ?_) (fun z => absurd z (by decide))
                exact h _ _ sc mg_f2.rf (Or.inr ⟨ok, 2, by decide, mg_eq (by decide) e, Or.inr (Or.inl ⟨q, y, rfl, rfl⟩)⟩)
              · first | refine And.intro (fun z => absurd z (by decide)) (fun _ => ?_) | refine And.intro (fun _ => ?_) (fun z => absurd z (by decide))
                have f : mg_f2 [38] [] I (va_up I 38 (va_cpy (I 49) (I 38) i.toNatClampNeg a.toNatClampNeg n.toNatClampNeg)) := mg_f2.up mg_f2.rf rfl
                refine And.intro (fun z => by rw [mi_lt] at z; have := mi_l; omega) (And.intro (fun z => by rw [mi_lt] at z; have := mi_l; omega) (And.intro (fun z => by rw [mi_lt] at z; have := mi_l; omega) (And.intro (show i.toNatClampNeg + n.toNatClampNeg ≤ 60 by omega) (And.intro (show a.toNatClampNeg + n.toNatClampNeg ≤ 60 by omega) ?_))))
                exact h _ _ ⟨(show rg (_ : Int32) _ _ by rw [f 0 7 rfl rfl]; exact s1), (show rg (_ : Int32) _ _ by rw [f 1 2 rfl rfl]; exact s2), (show rg (_ : Int32) _ _ by rw [f 1 9 rfl rfl]; exact s3), (show rg (_ : Int32) _ _ by rw [f 2 2 rfl rfl]; exact s4), (show rg (_ : Int32) _ _ by rw [f 3 6 rfl rfl]; exact s5), (fun j => (by rw [f 25 j rfl rfl]; exact s6 j)), (s7.kp (f 4 7 rfl rfl) (f2_fn (c := 31) f rfl (fun _ => rfl)) (f2_fn (c := 32) f rfl (fun _ => rfl)) (f2_fn (c := 33) f rfl (fun _ => rfl))), (s8.kp (f 4 7 rfl rfl) (f2_fn (c := 45) f rfl (fun _ => rfl)) (f2_fn (c := 46) f rfl (fun _ => rfl))), ⟨(show rg (_ : Int32) _ _ by rw [f 8 1 rfl rfl]; exact s9.1), (show rg (_ : Int32) _ _ by rw [f 8 2 rfl rfl]; exact s9.2)⟩, ⟨(show rg (_ : Int32) _ _ by rw [f 9 1 rfl rfl]; exact s10.1), (show rg (_ : Int32) _ _ by rw [f 9 2 rfl rfl]; exact s10.2)⟩, ⟨(show rg (_ : Int32) _ _ by rw [f 10 1 rfl rfl]; exact s11.1), (show rg (_ : Int32) _ _ by rw [f 10 2 rfl rfl]; exact s11.2)⟩, ⟨(show rg (_ : Int32) _ _ by rw [f 11 1 rfl rfl]; exact s12.1), (show rg (_ : Int32) _ _ by rw [f 11 2 rfl rfl]; exact s12.2)⟩⟩ f (Or.inr ⟨ok, 2, by decide, mg_eq (by decide) e, Or.inr (Or.inr ⟨q, y, rfl, rfl⟩)⟩)
            · exact h _ _ sc mg_f2.rf (Or.inr ⟨ok, 2, by decide, mg_eq (by decide) e, Or.inl ⟨q, rfl, rfl⟩⟩)
          · refine s_faultAs11 (by omega) c i n ?_
            refine And.intro (fun q => ?_) (fun q => ?_)
            · have z := mg_has s12.2 (v_fault0 q).1
              have w := s12.2.2
              have k1 := mi_cl z.1
              have k2 := mi_cl z.2.1
              refine s_above11 (by omega) 9 i n z.1 z.2.1 (by omega) (fun y => ?_) (fun y => ?_)
              · first | refine And.intro (fun z => absurd z (by decide)) (fun _ => ?_) | refine And.intro (fun _ => ?_) (fun z => absurd z (by decide))
                exact h _ _ sc mg_f2.rf (Or.inr ⟨ok, 3, by decide, mg_eq (by decide) e, Or.inr (Or.inl ⟨q, y, rfl, rfl⟩)⟩)
              · first | refine And.intro (fun z => absurd z (by decide)) (fun _ => ?_) | refine And.intro (fun _ => ?_) (fun z => absurd z (by decide))
                have f : mg_f2 [38] [] I (va_up I 38 (va_cpy (I 50) (I 38) i.toNatClampNeg a.toNatClampNeg n.toNatClampNeg)) := mg_f2.up mg_f2.rf rfl
                refine And.intro (fun z => by rw [mi_lt] at z; have := mi_l; omega) (And.intro (fun z => by rw [mi_lt] at z; have := mi_l; omega) (And.intro (fun z => by rw [mi_lt] at z; have := mi_l; omega) (And.intro (show i.toNatClampNeg + n.toNatClampNeg ≤ 60 by omega) (And.intro (show a.toNatClampNeg + n.toNatClampNeg ≤ 60 by omega) ?_))))
                exact h _ _ ⟨(show rg (_ : Int32) _ _ by rw [f 0 7 rfl rfl]; exact s1), (show rg (_ : Int32) _ _ by rw [f 1 2 rfl rfl]; exact s2), (show rg (_ : Int32) _ _ by rw [f 1 9 rfl rfl]; exact s3), (show rg (_ : Int32) _ _ by rw [f 2 2 rfl rfl]; exact s4), (show rg (_ : Int32) _ _ by rw [f 3 6 rfl rfl]; exact s5), (fun j => (by rw [f 25 j rfl rfl]; exact s6 j)), (s7.kp (f 4 7 rfl rfl) (f2_fn (c := 31) f rfl (fun _ => rfl)) (f2_fn (c := 32) f rfl (fun _ => rfl)) (f2_fn (c := 33) f rfl (fun _ => rfl))), (s8.kp (f 4 7 rfl rfl) (f2_fn (c := 45) f rfl (fun _ => rfl)) (f2_fn (c := 46) f rfl (fun _ => rfl))), ⟨(show rg (_ : Int32) _ _ by rw [f 8 1 rfl rfl]; exact s9.1), (show rg (_ : Int32) _ _ by rw [f 8 2 rfl rfl]; exact s9.2)⟩, ⟨(show rg (_ : Int32) _ _ by rw [f 9 1 rfl rfl]; exact s10.1), (show rg (_ : Int32) _ _ by rw [f 9 2 rfl rfl]; exact s10.2)⟩, ⟨(show rg (_ : Int32) _ _ by rw [f 10 1 rfl rfl]; exact s11.1), (show rg (_ : Int32) _ _ by rw [f 10 2 rfl rfl]; exact s11.2)⟩, ⟨(show rg (_ : Int32) _ _ by rw [f 11 1 rfl rfl]; exact s12.1), (show rg (_ : Int32) _ _ by rw [f 11 2 rfl rfl]; exact s12.2)⟩⟩ f (Or.inr ⟨ok, 3, by decide, mg_eq (by decide) e, Or.inr (Or.inr ⟨q, y, rfl, rfl⟩)⟩)
            · exact h _ _ sc mg_f2.rf (Or.inr ⟨ok, 3, by decide, mg_eq (by decide) e, Or.inl ⟨q, rfl, rfl⟩⟩)
        · first | refine And.intro (fun z => absurd z (by decide)) (fun _ => ?_) | refine And.intro (fun _ => ?_) (fun z => absurd z (by decide))
          exact h _ _ sc mg_f2.rf (Or.inl ⟨fun z => p3 z.2.2.2, rfl, rfl⟩)
      · first | refine And.intro (fun z => absurd z (by decide)) (fun _ => ?_) | refine And.intro (fun _ => ?_) (fun z => absurd z (by decide))
        exact h _ _ sc mg_f2.rf (Or.inl ⟨fun z => p2 z.2.2.1, rfl, rfl⟩)
    · first | refine And.intro (fun z => absurd z (by decide)) (fun _ => ?_) | refine And.intro (fun _ => ?_) (fun z => absurd z (by decide))
      exact h _ _ sc mg_f2.rf (Or.inl ⟨fun z => p1 z.2.1, rfl, rfl⟩)
  · first | refine And.intro (fun z => absurd z (by decide)) (fun _ => ?_) | refine And.intro (fun _ => ?_) (fun z => absurd z (by decide))
    exact h _ _ sc mg_f2.rf (Or.inl ⟨fun z => p0 z.1, rfl, rfl⟩)

