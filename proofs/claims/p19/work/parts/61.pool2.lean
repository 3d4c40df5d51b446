theorem l_fill20 {d : Nat} {v : Int32} {J : mv_J} {Q : mv_Q} : ∀ (k i fu : Nat) (x : Int32) (I : mv_I), x = nI i → i + k = 8 → 20 * k + 20 ≤ fu → Q none (va_up I 20 (fun j => if i ≤ j ∧ j < 8 then v else I 20 j)) J → mv_wp (mv_wpM mv_tab mv_sh d) mv_sh none tbJ7_fill_53178 flJ7 csJ7 0 (fun _ _ _ _ _ => False) Q (fu) 5 [some (.inr (.inr 20)), some (.inl v), some (.inl x), some (.inl (nI 8))] [] I J := by
  intro k
  induction k with
  | zero =>
    intro i fu x I ex hi hf h
    subst ex
    obtain ⟨fu, rfl⟩ : ∃ z, fu = z + 20 := ⟨fu - 20, by omega⟩
    have e : i = 8 := by omega
    subst e
    refine And.intro (fun q => ?_) (fun q => absurd (Int32.le_refl _) q)
    have e : va_up I 20 (fun j => if 8 ≤ j ∧ j < 8 then v else I 20 j) = I := by
      funext c
      by_cases hc : c = 20
      · subst hc
        rw [va_up_self]
        funext j
        rw [if_neg (by omega)]
      · rw [va_up_ne _ _ hc]
    rw [e] at h
    exact h
  | succ k ih =>
    intro i fu x I ex hi hf h
    subst ex
    obtain ⟨fu, rfl⟩ : ∃ z, fu = z + 20 := ⟨fu - 20, by omega⟩
    refine And.intro (fun q => absurd q (nI_ge (by omega) (by decide))) (fun q => ?_)
    refine And.intro (vp_in_nI (by omega) (by decide)) ?_
    refine And.intro ?_ trivial
    refine ih (i + 1) _ _ _ (nI_1 i) (by omega) (by omega) ?_
    rw [nI_clamp (show i < 2 ^ 31 by omega)]
    have e : va_up (va_up I 20 (upd (I 20) i v)) 20 (fun j => if i + 1 ≤ j ∧ j < 8 then v else va_up I 20 (upd (I 20) i v) 20 j) = va_up I 20 (fun j => if i ≤ j ∧ j < 8 then v else I 20 j) := by
      rw [bx_uu]
      congr 1
      funext j
      rw [va_up_self]
      unfold upd
      by_cases h1 : j = i
      · subst h1
        rw [if_neg (by omega), if_pos rfl, if_pos (by omega)]
      · by_cases h2 : i + 1 ≤ j ∧ j < 8
        · rw [if_pos h2, if_pos (by omega)]
        · rw [if_neg h2, if_neg h1, if_neg (by omega)]
    rw [e]
    exact h
set_option maxHeartbeats 1000000 in
theorem c_fill20 {d : Nat} (hd : 1 ≤ d) (v : Int32) {I : mv_I} {J : mv_J} {Q : mv_Q} (h : Q none (va_up I 20 (fun j => if 0 ≤ j ∧ j < 8 then v else I 20 j)) J) : mv_wpM mv_tab mv_sh d 18 [.inr (.inr 20), .inl v] I J Q := by
  obtain ⟨d, rfl⟩ : ∃ e, d = e + 1 := ⟨d - 1, by omega⟩
  refine (show ∃ fu9, mv_wp (mv_wpM mv_tab mv_sh d) mv_sh none tbJ7_fill_53178 flJ7 csJ7 0 (fun _ _ _ _ _ => False) Q fu9 0 [some (.inr (.inr 20)), some (.inl v), none, none] [] I J from ?_)
  refine ⟨225, ?_⟩
  refine And.intro ?_ trivial
  exact l_fill20 8 0 _ _ _ nI_0.symm (by omega) (Nat.le_of_ble_eq_true rfl) h
theorem l_fill23 {d : Nat} {v : Int32} {J : mv_J} {Q : mv_Q} : ∀ (k i fu : Nat) (x : Int32) (I : mv_I), x = nI i → i + k = 8 → 20 * k + 20 ≤ fu → Q none (va_up I 23 (fun j => if i ≤ j ∧ j < 8 then v else I 23 j)) J → mv_wp (mv_wpM mv_tab mv_sh d) mv_sh none tbJ7_fill_53178 flJ7 csJ7 0 (fun _ _ _ _ _ => False) Q (fu) 5 [some (.inr (.inr 23)), some (.inl v), some (.inl x), some (.inl (nI 8))] [] I J := by
  intro k
  induction k with
  | zero =>
    intro i fu x I ex hi hf h
    subst ex
    obtain ⟨fu, rfl⟩ : ∃ z, fu = z + 20 := ⟨fu - 20, by omega⟩
    have e : i = 8 := by omega
    subst e
    refine And.intro (fun q => ?_) (fun q => absurd (Int32.le_refl _) q)
    have e : va_up I 23 (fun j => if 8 ≤ j ∧ j < 8 then v else I 23 j) = I := by
      funext c
      by_cases hc : c = 23
      · subst hc
        rw [va_up_self]
        funext j
        rw [if_neg (by omega)]
      · rw [va_up_ne _ _ hc]
    rw [e] at h
    exact h
  | succ k ih =>
    intro i fu x I ex hi hf h
    subst ex
    obtain ⟨fu, rfl⟩ : ∃ z, fu = z + 20 := ⟨fu - 20, by omega⟩
    refine And.intro (fun q => absurd q (nI_ge (by omega) (by decide))) (fun q => ?_)
    refine And.intro (vp_in_nI (by omega) (by decide)) ?_
    refine And.intro ?_ trivial
    refine ih (i + 1) _ _ _ (nI_1 i) (by omega) (by omega) ?_
    rw [nI_clamp (show i < 2 ^ 31 by omega)]
    have e : va_up (va_up I 23 (upd (I 23) i v)) 23 (fun j => if i + 1 ≤ j ∧ j < 8 then v else va_up I 23 (upd (I 23) i v) 23 j) = va_up I 23 (fun j => if i ≤ j ∧ j < 8 then v else I 23 j) := by
      rw [bx_uu]
      congr 1
      funext j
      rw [va_up_self]
      unfold upd
      by_cases h1 : j = i
      · subst h1
        rw [if_neg (by omega), if_pos rfl, if_pos (by omega)]
      · by_cases h2 : i + 1 ≤ j ∧ j < 8
        · rw [if_pos h2, if_pos (by omega)]
        · rw [if_neg h2, if_neg h1, if_neg (by omega)]
    rw [e]
    exact h
set_option maxHeartbeats 1000000 in
theorem c_fill23 {d : Nat} (hd : 1 ≤ d) (v : Int32) {I : mv_I} {J : mv_J} {Q : mv_Q} (h : Q none (va_up I 23 (fun j => if 0 ≤ j ∧ j < 8 then v else I 23 j)) J) : mv_wpM mv_tab mv_sh d 18 [.inr (.inr 23), .inl v] I J Q := by
  obtain ⟨d, rfl⟩ : ∃ e, d = e + 1 := ⟨d - 1, by omega⟩
  refine (show ∃ fu9, mv_wp (mv_wpM mv_tab mv_sh d) mv_sh none tbJ7_fill_53178 flJ7 csJ7 0 (fun _ _ _ _ _ => False) Q fu9 0 [some (.inr (.inr 23)), some (.inl v), none, none] [] I J from ?_)
  refine ⟨225, ?_⟩
  refine And.intro ?_ trivial
  exact l_fill23 8 0 _ _ _ nI_0.symm (by omega) (Nat.le_of_ble_eq_true rfl) h
theorem l_fill41 {d : Nat} {v : Int32} {J : mv_J} {Q : mv_Q} : ∀ (k i fu : Nat) (x : Int32) (I : mv_I), x = nI i → i + k = 6 → 20 * k + 20 ≤ fu → Q none (va_up I 41 (fun j => if i ≤ j ∧ j < 6 then v else I 41 j)) J → mv_wp (mv_wpM mv_tab mv_sh d) mv_sh none tbJ7_fill_53178 flJ7 csJ7 0 (fun _ _ _ _ _ => False) Q (fu) 5 [some (.inr (.inr 41)), some (.inl v), some (.inl x), some (.inl (nI 6))] [] I J := by
  intro k
  induction k with
  | zero =>
    intro i fu x I ex hi hf h
    subst ex
    obtain ⟨fu, rfl⟩ : ∃ z, fu = z + 20 := ⟨fu - 20, by omega⟩
    have e : i = 6 := by omega
    subst e
    refine And.intro (fun q => ?_) (fun q => absurd (Int32.le_refl _) q)
    have e : va_up I 41 (fun j => if 6 ≤ j ∧ j < 6 then v else I 41 j) = I := by
      funext c
      by_cases hc : c = 41
      · subst hc
        rw [va_up_self]
        funext j
        rw [if_neg (by omega)]
      · rw [va_up_ne _ _ hc]
    rw [e] at h
    exact h
  | succ k ih =>
    intro i fu x I ex hi hf h
    subst ex
    obtain ⟨fu, rfl⟩ : ∃ z, fu = z + 20 := ⟨fu - 20, by omega⟩
    refine And.intro (fun q => absurd q (nI_ge (by omega) (by decide))) (fun q => ?_)
    refine And.intro (vp_in_nI (by omega) (by decide)) ?_
    refine And.intro ?_ trivial
    refine ih (i + 1) _ _ _ (nI_1 i) (by omega) (by omega) ?_
    rw [nI_clamp (show i < 2 ^ 31 by omega)]
    have e : va_up (va_up I 41 (upd (I 41) i v)) 41 (fun j => if i + 1 ≤ j ∧ j < 6 then v else va_up I 41 (upd (I 41) i v) 41 j) = va_up I 41 (fun j => if i ≤ j ∧ j < 6 then v else I 41 j) := by
      rw [bx_uu]
      congr 1
      funext j
      rw [va_up_self]
      unfold upd
      by_cases h1 : j = i
      · subst h1
        rw [if_neg (by omega), if_pos rfl, if_pos (by omega)]
      · by_cases h2 : i + 1 ≤ j ∧ j < 6
        · rw [if_pos h2, if_pos (by omega)]
        · rw [if_neg h2, if_neg h1, if_neg (by omega)]
    rw [e]
    exact h
set_option maxHeartbeats 1000000 in
theorem c_fill41 {d : Nat} (hd : 1 ≤ d) (v : Int32) {I : mv_I} {J : mv_J} {Q : mv_Q} (h : Q none (va_up I 41 (fun j => if 0 ≤ j ∧ j < 6 then v else I 41 j)) J) : mv_wpM mv_tab mv_sh d 18 [.inr (.inr 41), .inl v] I J Q := by
  obtain ⟨d, rfl⟩ : ∃ e, d = e + 1 := ⟨d - 1, by omega⟩
  refine (show ∃ fu9, mv_wp (mv_wpM mv_tab mv_sh d) mv_sh none tbJ7_fill_53178 flJ7 csJ7 0 (fun _ _ _ _ _ => False) Q fu9 0 [some (.inr (.inr 41)), some (.inl v), none, none] [] I J from ?_)
  refine ⟨185, ?_⟩
  refine And.intro ?_ trivial
  exact l_fill41 6 0 _ _ _ nI_0.symm (by omega) (Nat.le_of_ble_eq_true rfl) h
theorem l_fill47 {d : Nat} {v : Int32} {J : mv_J} {Q : mv_Q} : ∀ (k i fu : Nat) (x : Int32) (I : mv_I), x = nI i → i + k = 60 → 20 * k + 20 ≤ fu → Q none (va_up I 47 (fun j => if i ≤ j ∧ j < 60 then v else I 47 j)) J → mv_wp (mv_wpM mv_tab mv_sh d) mv_sh none tbJ7_fill_53178 flJ7 csJ7 0 (fun _ _ _ _ _ => False) Q (fu) 5 [some (.inr (.inr 47)), some (.inl v), some (.inl x), some (.inl (nI 60))] [] I J := by
  intro k
  induction k with
  | zero =>
    intro i fu x I ex hi hf h
    subst ex
    obtain ⟨fu, rfl⟩ : ∃ z, fu = z + 20 := ⟨fu - 20, by omega⟩
    have e : i = 60 := by omega
    subst e
    refine And.intro (fun q => ?_) (fun q => absurd (Int32.le_refl _) q)
    have e : va_up I 47 (fun j => if 60 ≤ j ∧ j < 60 then v else I 47 j) = I := by
      funext c
      by_cases hc : c = 47
      · subst hc
        rw [va_up_self]
        funext j
        rw [if_neg (by omega)]
      · rw [va_up_ne _ _ hc]
    rw [e] at h
    exact h
  | succ k ih =>
    intro i fu x I ex hi hf h
    subst ex
    obtain ⟨fu, rfl⟩ : ∃ z, fu = z + 20 := ⟨fu - 20, by omega⟩
    refine And.intro (fun q => absurd q (nI_ge (by omega) (by decide))) (fun q => ?_)
    refine And.intro (vp_in_nI (by omega) (by decide)) ?_
    refine And.intro ?_ trivial
    refine ih (i + 1) _ _ _ (nI_1 i) (by omega) (by omega) ?_
    rw [nI_clamp (show i < 2 ^ 31 by omega)]
    have e : va_up (va_up I 47 (upd (I 47) i v)) 47 (fun j => if i + 1 ≤ j ∧ j < 60 then v else va_up I 47 (upd (I 47) i v) 47 j) = va_up I 47 (fun j => if i ≤ j ∧ j < 60 then v else I 47 j) := by
      rw [bx_uu]
      congr 1
      funext j
      rw [va_up_self]
      unfold upd
      by_cases h1 : j = i
      · subst h1
        rw [if_neg (by omega), if_pos rfl, if_pos (by omega)]
      · by_cases h2 : i + 1 ≤ j ∧ j < 60
        · rw [if_pos h2, if_pos (by omega)]
        · rw [if_neg h2, if_neg h1, if_neg (by omega)]
    rw [e]
    exact h
set_option maxHeartbeats 1000000 in
theorem c_fill47 {d : Nat} (hd : 1 ≤ d) (v : Int32) {I : mv_I} {J : mv_J} {Q : mv_Q} (h : Q none (va_up I 47 (fun j => if 0 ≤ j ∧ j < 60 then v else I 47 j)) J) : mv_wpM mv_tab mv_sh d 18 [.inr (.inr 47), .inl v] I J Q := by
  obtain ⟨d, rfl⟩ : ∃ e, d = e + 1 := ⟨d - 1, by omega⟩
  refine (show ∃ fu9, mv_wp (mv_wpM mv_tab mv_sh d) mv_sh none tbJ7_fill_53178 flJ7 csJ7 0 (fun _ _ _ _ _ => False) Q fu9 0 [some (.inr (.inr 47)), some (.inl v), none, none] [] I J from ?_)
  refine ⟨1265, ?_⟩
  refine And.intro ?_ trivial
  exact l_fill47 60 0 _ _ _ nI_0.symm (by omega) (Nat.le_of_ble_eq_true rfl) h
theorem l_fill48 {d : Nat} {v : Int32} {J : mv_J} {Q : mv_Q} : ∀ (k i fu : Nat) (x : Int32) (I : mv_I), x = nI i → i + k = 60 → 20 * k + 20 ≤ fu → Q none (va_up I 48 (fun j => if i ≤ j ∧ j < 60 then v else I 48 j)) J → mv_wp (mv_wpM mv_tab mv_sh d) mv_sh none tbJ7_fill_53178 flJ7 csJ7 0 (fun _ _ _ _ _ => False) Q (fu) 5 [some (.inr (.inr 48)), some (.inl v), some (.inl x), some (.inl (nI 60))] [] I J := by
  intro k
  induction k with
  | zero =>
    intro i fu x I ex hi hf h
    subst ex
    obtain ⟨fu, rfl⟩ : ∃ z, fu = z + 20 := ⟨fu - 20, by omega⟩
    have e : i = 60 := by omega
    subst e
    refine And.intro (fun q => ?_) (fun q => absurd (Int32.le_refl _) q)
    have e : va_up I 48 (fun j => if 60 ≤ j ∧ j < 60 then v else I 48 j) = I := by
      funext c
      by_cases hc : c = 48
      · subst hc
        rw [va_up_self]
        funext j
        rw [if_neg (by omega)]
      · rw [va_up_ne _ _ hc]
    rw [e] at h
    exact h
  | succ k ih =>
    intro i fu x I ex hi hf h
    subst ex
    obtain ⟨fu, rfl⟩ : ∃ z, fu = z + 20 := ⟨fu - 20, by omega⟩
    refine And.intro (fun q => absurd q (nI_ge (by omega) (by decide))) (fun q => ?_)
    refine And.intro (vp_in_nI (by omega) (by decide)) ?_
    refine And.intro ?_ trivial
    refine ih (i + 1) _ _ _ (nI_1 i) (by omega) (by omega) ?_
    rw [nI_clamp (show i < 2 ^ 31 by omega)]
    have e : va_up (va_up I 48 (upd (I 48) i v)) 48 (fun j => if i + 1 ≤ j ∧ j < 60 then v else va_up I 48 (upd (I 48) i v) 48 j) = va_up I 48 (fun j => if i ≤ j ∧ j < 60 then v else I 48 j) := by
      rw [bx_uu]
      congr 1
      funext j
      rw [va_up_self]
      unfold upd
      by_cases h1 : j = i
      · subst h1
        rw [if_neg (by omega), if_pos rfl, if_pos (by omega)]
      · by_cases h2 : i + 1 ≤ j ∧ j < 60
        · rw [if_pos h2, if_pos (by omega)]
        · rw [if_neg h2, if_neg h1, if_neg (by omega)]
    rw [e]
    exact h
set_option maxHeartbeats 1000000 in
theorem c_fill48 {d : Nat} (hd : 1 ≤ d) (v : Int32) {I : mv_I} {J : mv_J} {Q : mv_Q} (h : Q none (va_up I 48 (fun j => if 0 ≤ j ∧ j < 60 then v else I 48 j)) J) : mv_wpM mv_tab mv_sh d 18 [.inr (.inr 48), .inl v] I J Q := by
  obtain ⟨d, rfl⟩ : ∃ e, d = e + 1 := ⟨d - 1, by omega⟩
  refine (show ∃ fu9, mv_wp (mv_wpM mv_tab mv_sh d) mv_sh none tbJ7_fill_53178 flJ7 csJ7 0 (fun _ _ _ _ _ => False) Q fu9 0 [some (.inr (.inr 48)), some (.inl v), none, none] [] I J from ?_)
  refine ⟨1265, ?_⟩
  refine And.intro ?_ trivial
  exact l_fill48 60 0 _ _ _ nI_0.symm (by omega) (Nat.le_of_ble_eq_true rfl) h
theorem l_fill49 {d : Nat} {v : Int32} {J : mv_J} {Q : mv_Q} : ∀ (k i fu : Nat) (x : Int32) (I : mv_I), x = nI i → i + k = 60 → 20 * k + 20 ≤ fu → Q none (va_up I 49 (fun j => if i ≤ j ∧ j < 60 then v else I 49 j)) J → mv_wp (mv_wpM mv_tab mv_sh d) mv_sh none tbJ7_fill_53178 flJ7 csJ7 0 (fun _ _ _ _ _ => False) Q (fu) 5 [some (.inr (.inr 49)), some (.inl v), some (.inl x), some (.inl (nI 60))] [] I J := by
  intro k
  induction k with
  | zero =>
    intro i fu x I ex hi hf h
    subst ex
    obtain ⟨fu, rfl⟩ : ∃ z, fu = z + 20 := ⟨fu - 20, by omega⟩
    have e : i = 60 := by omega
    subst e
    refine And.intro (fun q => ?_) (fun q => absurd (Int32.le_refl _) q)
    have e : va_up I 49 (fun j => if 60 ≤ j ∧ j < 60 then v else I 49 j) = I := by
      funext c
      by_cases hc : c = 49
      · subst hc
        rw [va_up_self]
        funext j
        rw [if_neg (by omega)]
      · rw [va_up_ne _ _ hc]
    rw [e] at h
    exact h
  | succ k ih =>
    intro i fu x I ex hi hf h
    subst ex
    obtain ⟨fu, rfl⟩ : ∃ z, fu = z + 20 := ⟨fu - 20, by omega⟩
    refine And.intro (fun q => absurd q (nI_ge (by omega) (by decide))) (fun q => ?_)
    refine And.intro (vp_in_nI (by omega) (by decide)) ?_
    refine And.intro ?_ trivial
    refine ih (i + 1) _ _ _ (nI_1 i) (by omega) (by omega) ?_
    rw [nI_clamp (show i < 2 ^ 31 by omega)]
    have e : va_up (va_up I 49 (upd (I 49) i v)) 49 (fun j => if i + 1 ≤ j ∧ j < 60 then v else va_up I 49 (upd (I 49) i v) 49 j) = va_up I 49 (fun j => if i ≤ j ∧ j < 60 then v else I 49 j) := by
      rw [bx_uu]
      congr 1
      funext j
      rw [va_up_self]
      unfold upd
      by_cases h1 : j = i
      · subst h1
        rw [if_neg (by omega), if_pos rfl, if_pos (by omega)]
      · by_cases h2 : i + 1 ≤ j ∧ j < 60
        · rw [if_pos h2, if_pos (by omega)]
        · rw [if_neg h2, if_neg h1, if_neg (by omega)]
    rw [e]
    exact h
set_option maxHeartbeats 1000000 in
theorem c_fill49 {d : Nat} (hd : 1 ≤ d) (v : Int32) {I : mv_I} {J : mv_J} {Q : mv_Q} (h : Q none (va_up I 49 (fun j => if 0 ≤ j ∧ j < 60 then v else I 49 j)) J) : mv_wpM mv_tab mv_sh d 18 [.inr (.inr 49), .inl v] I J Q := by
  obtain ⟨d, rfl⟩ : ∃ e, d = e + 1 := ⟨d - 1, by omega⟩
  refine (show ∃ fu9, mv_wp (mv_wpM mv_tab mv_sh d) mv_sh none tbJ7_fill_53178 flJ7 csJ7 0 (fun _ _ _ _ _ => False) Q fu9 0 [some (.inr (.inr 49)), some (.inl v), none, none] [] I J from ?_)
  refine ⟨1265, ?_⟩
  refine And.intro ?_ trivial
  exact l_fill49 60 0 _ _ _ nI_0.symm (by omega) (Nat.le_of_ble_eq_true rfl) h
theorem l_fill50 {d : Nat} {v : Int32} {J : mv_J} {Q : mv_Q} : ∀ (k i fu : Nat) (x : Int32) (I : mv_I), x = nI i → i + k = 60 → 20 * k + 20 ≤ fu → Q none (va_up I 50 (fun j => if i ≤ j ∧ j < 60 then v else I 50 j)) J → mv_wp (mv_wpM mv_tab mv_sh d) mv_sh none tbJ7_fill_53178 flJ7 csJ7 0 (fun _ _ _ _ _ => False) Q (fu) 5 [some (.inr (.inr 50)), some (.inl v), some (.inl x), some (.inl (nI 60))] [] I J := by
  intro k
  induction k with
  | zero =>
    intro i fu x I ex hi hf h
    subst ex
    obtain ⟨fu, rfl⟩ : ∃ z, fu = z + 20 := ⟨fu - 20, by omega⟩
    have e : i = 60 := by omega
    subst e
    refine And.intro (fun q => ?_) (fun q => absurd (Int32.le_refl _) q)
    have e : va_up I 50 (fun j => if 60 ≤ j ∧ j < 60 then v else I 50 j) = I := by
      funext c
      by_cases hc : c = 50
      · subst hc
        rw [va_up_self]
        funext j
        rw [if_neg (by omega)]
      · rw [va_up_ne _ _ hc]
    rw [e] at h
    exact h
  | succ k ih =>
    intro i fu x I ex hi hf h
    subst ex
    obtain ⟨fu, rfl⟩ : ∃ z, fu = z + 20 := ⟨fu - 20, by omega⟩
    refine And.intro (fun q => absurd q (nI_ge (by omega) (by decide))) (fun q => ?_)
    refine And.intro (vp_in_nI (by omega) (by decide)) ?_
    refine And.intro ?_ trivial
    refine ih (i + 1) _ _ _ (nI_1 i) (by omega) (by omega) ?_
    rw [nI_clamp (show i < 2 ^ 31 by omega)]
    have e : va_up (va_up I 50 (upd (I 50) i v)) 50 (fun j => if i + 1 ≤ j ∧ j < 60 then v else va_up I 50 (upd (I 50) i v) 50 j) = va_up I 50 (fun j => if i ≤ j ∧ j < 60 then v else I 50 j) := by
      rw [bx_uu]
      congr 1
      funext j
      rw [va_up_self]
      unfold upd
      by_cases h1 : j = i
      · subst h1
        rw [if_neg (by omega), if_pos rfl, if_pos (by omega)]
      · by_cases h2 : i + 1 ≤ j ∧ j < 60
        · rw [if_pos h2, if_pos (by omega)]
        · rw [if_neg h2, if_neg h1, if_neg (by omega)]
    rw [e]
    exact h
set_option maxHeartbeats 1000000 in
theorem c_fill50 {d : Nat} (hd : 1 ≤ d) (v : Int32) {I : mv_I} {J : mv_J} {Q : mv_Q} (h : Q none (va_up I 50 (fun j => if 0 ≤ j ∧ j < 60 then v else I 50 j)) J) : mv_wpM mv_tab mv_sh d 18 [.inr (.inr 50), .inl v] I J Q := by
  obtain ⟨d, rfl⟩ : ∃ e, d = e + 1 := ⟨d - 1, by omega⟩
  refine (show ∃ fu9, mv_wp (mv_wpM mv_tab mv_sh d) mv_sh none tbJ7_fill_53178 flJ7 csJ7 0 (fun _ _ _ _ _ => False) Q fu9 0 [some (.inr (.inr 50)), some (.inl v), none, none] [] I J from ?_)
  refine ⟨1265, ?_⟩
  refine And.intro ?_ trivial
  exact l_fill50 60 0 _ _ _ nI_0.symm (by omega) (Nat.le_of_ble_eq_true rfl) h
set_option maxHeartbeats 1000000 in
theorem l_quota3 {d : Nat} (hd : 3 ≤ d) {w a n : Int32} {J : mv_J} {Q : mv_Q} {I0 : mv_I} (hn : rg n 0 100) (hv : rg w 0 7) (hw : rg (I0 1 2) 0 8) (h : ∀ (r : Int32) (I' : mv_I), mg_fr [20, 21, 22] I0 I' → Q (some (.inl r)) I' J) : ∀ (k fu : Nat) (x : Int32) (I : mv_I), 0 ≤ x.toInt → mg_fr [20, 21, 22] I0 I → ((I0 1 2).toInt - x.toInt).toNat < k → 60 * k ≤ fu → mv_wp (mv_wpM mv_tab mv_sh d) mv_sh none tbX3_quotaOf flX3 csX3 1 (fun _ _ _ _ _ => False) Q fu 78 [some (.inr (.inr 1)), some (.inl w), some (.inl a), some (.inl n), some (.inl x)] [] I J := by
  intro k
  induction k with
  | zero => intro fu x I h0 h1 h2 hf; omega
  | succ k ih =>
    intro fu x I h0 h1 h2 hf
    obtain ⟨fu, rfl⟩ : ∃ z, fu = z + 60 := ⟨fu - 60, by omega⟩
    have ew : I 1 = I0 1 := h1 1 rfl
    have hw2 : rg (I 1 2) 0 8 := by rw [ew]; exact hw
    obtain ⟨hn0, hn1⟩ := id hw
    obtain ⟨hv0, hv1⟩ := id hv
    refine And.intro (fun q => ?_) (fun q => ?_)
    · refine And.intro (vp_in_iff.mpr ⟨by omega, by omega⟩) ?_
      exact s_lentTo (by omega) w a n hn (fun r => h _ _ h1)
    · have qx : x.toInt < (I0 1 2).toInt := by rw [ew] at q; (try simp only [mi_le, mi_lt, mi_eq] at *); have := mi_l; omega
      have e1 := mi_incl qx
      have B : vp_in x 8 := vp_in_iff.mpr ⟨by omega, by omega⟩
      refine And.intro B ?_
      refine And.intro (fun _ => ?_) (fun _ => ?_)
      · refine And.intro ?_ trivial
        exact ih _ _ _ (by omega) h1 (by omega) (by omega)
      · refine And.intro B ?_
        refine s_partAmong (by omega) _ hw2 (fun I2 f2 => ?_)
        refine And.intro B ?_
        refine And.intro ?_ trivial
        exact ih _ _ _ (by omega) (mg_fr.up (h1.tr (f2.mono rfl)) rfl) (by omega) (by omega)
set_option maxHeartbeats 1000000 in
theorem l_quota2 {d : Nat} (hd : 3 ≤ d) {w a n : Int32} {J : mv_J} {Q : mv_Q} {I0 : mv_I} (hn : rg n 0 100) (hv : rg w 0 7) (hw : rg (I0 1 2) 0 8) (h : ∀ (r : Int32) (I' : mv_I), mg_fr [20, 21, 22] I0 I' → Q (some (.inl r)) I' J) : ∀ (k fu : Nat) (x : Int32) (I : mv_I), 0 ≤ x.toInt → mg_fr [20, 21, 22] I0 I → ((I0 1 2).toInt - x.toInt).toNat < k → 60 * k + 600 ≤ fu → mv_wp (mv_wpM mv_tab mv_sh d) mv_sh none tbX3_quotaOf flX3 csX3 1 (fun _ _ _ _ _ => False) Q fu 45 [some (.inr (.inr 1)), some (.inl w), some (.inl a), some (.inl n), some (.inl x)] [] I J := by
  intro k
  induction k with
  | zero => intro fu x I h0 h1 h2 hf; omega
  | succ k ih =>
    intro fu x I h0 h1 h2 hf
    obtain ⟨fu, rfl⟩ : ∃ z, fu = z + 60 := ⟨fu - 60, by omega⟩
    have ew : I 1 = I0 1 := h1 1 rfl
    have hw2 : rg (I 1 2) 0 8 := by rw [ew]; exact hw
    obtain ⟨hn0, hn1⟩ := id hw
    obtain ⟨hv0, hv1⟩ := id hv
    refine And.intro (fun q => ?_) (fun q => ?_)
    · refine And.intro ?_ trivial
      exact l_quota3 hd hn hv hw h 9 _ _ _ (by decide) h1 (by have := mi_l; omega) (by omega)
    · have qx : x.toInt < (I0 1 2).toInt := by rw [ew] at q; (try simp only [mi_le, mi_lt, mi_eq] at *); have := mi_l; omega
      have e1 := mi_incl qx
      have B : vp_in x 8 := vp_in_iff.mpr ⟨by omega, by omega⟩
      refine s_isOpen (by omega) _ _ _ hn (fun r hr => ?_)
      refine And.intro B ?_
      refine And.intro ?_ trivial
      exact ih _ _ _ (by omega) (mg_fr.up h1 rfl) (by omega) (by omega)
set_option maxHeartbeats 1000000 in
theorem l_quota1 {d : Nat} (hd : 3 ≤ d) {w a n : Int32} {J : mv_J} {Q : mv_Q} {I0 : mv_I} (hn : rg n 0 100) (hv : rg w 0 7) (hw : rg (I0 1 2) 0 8) (h : ∀ (r : Int32) (I' : mv_I), mg_fr [20, 21, 22] I0 I' → Q (some (.inl r)) I' J) : ∀ (k fu : Nat) (x : Int32) (I : mv_I), 0 ≤ x.toInt → mg_fr [20, 21, 22] I0 I → ((I0 1 2).toInt - x.toInt).toNat < k → 60 * k + 1260 ≤ fu → mv_wp (mv_wpM mv_tab mv_sh d) mv_sh none tbX3_quotaOf flX3 csX3 1 (fun _ _ _ _ _ => False) Q fu 11 [some (.inr (.inr 1)), some (.inl w), some (.inl a), some (.inl n), some (.inl x)] [] I J := by
  intro k
  induction k with
  | zero => intro fu x I h0 h1 h2 hf; omega
  | succ k ih =>
    intro fu x I h0 h1 h2 hf
    obtain ⟨fu, rfl⟩ : ∃ z, fu = z + 60 := ⟨fu - 60, by omega⟩
    have ew : I 1 = I0 1 := h1 1 rfl
    have hw2 : rg (I 1 2) 0 8 := by rw [ew]; exact hw
    obtain ⟨hn0, hn1⟩ := id hw
    obtain ⟨hv0, hv1⟩ := id hv
    refine And.intro (fun q => ?_) (fun q => ?_)
    · refine s_partAmong (by omega) _ hw2 (fun I2 f2 => ?_)
      refine And.intro ?_ trivial
      exact l_quota2 hd hn hv hw h 9 _ _ _ (by decide) (h1.tr (f2.mono rfl)) (by have := mi_l; omega) (by omega)
    · have qx : x.toInt < (I0 1 2).toInt := by rw [ew] at q; (try simp only [mi_le, mi_lt, mi_eq] at *); have := mi_l; omega
      have e1 := mi_incl qx
      have B : vp_in x 8 := vp_in_iff.mpr ⟨by omega, by omega⟩
      refine And.intro B ?_
      refine And.intro ?_ trivial
      exact ih _ _ _ (by omega) (mg_fr.up h1 rfl) (by omega) (by omega)
set_option maxHeartbeats 1000000 in
theorem s_quotaOf {d : Nat} (hd : 4 ≤ d) (w a n : Int32) {I : mv_I} {J : mv_J} {Q : mv_Q} (hn : rg n 0 100) (hv : rg w 0 7) (hw : rg (I 1 2) 0 8) (h : ∀ (r : Int32) (I' : mv_I), mg_fr [20, 21, 22] I I' → Q (some (.inl r)) I' J) : mv_wpM mv_tab mv_sh d 30 [.inr (.inr 1), .inl w, .inl a, .inl n] I J Q := by
  obtain ⟨d, rfl⟩ : ∃ e, d = e + 1 := ⟨d - 1, by omega⟩
  refine (show ∃ fu9, mv_wp (mv_wpM mv_tab mv_sh d) mv_sh none tbX3_quotaOf flX3 csX3 1 (fun _ _ _ _ _ => False) Q fu9 0 [some (.inr (.inr 1)), some (.inl w), some (.inl a), some (.inl n), none] [] I J from ?_)
  refine ⟨2100, ?_⟩
  refine c_fill20 (by omega) 0 ?_
  refine And.intro ?_ trivial
  exact l_quota1 (by omega) hn hv hw h 9 _ _ _ (by decide) (mg_fr.up mg_fr.rf rfl) (by obtain ⟨hn0, hn1⟩ := hw; have := mi_l; omega) (Nat.le_of_ble_eq_true rfl)

set_option maxHeartbeats 1000000 in
theorem s_unshipped {d : Nat} (hd : 5 ≤ d) (w a : Int32) {I : mv_I} {J : mv_J} {Q : mv_Q} (hn : rg (I 1 9) 0 100) (hv : rg w 0 7) (hw : rg (I 1 2) 0 8) (h : ∀ (r : Int32) (I' : mv_I), mg_fr [20, 21, 22] I I' → Q (some (.inl r)) I' J) : mv_wpM mv_tab mv_sh d 31 [.inr (.inr 1), .inl w, .inl a] I J Q := by
  obtain ⟨d, rfl⟩ : ∃ e, d = e + 1 := ⟨d - 1, by omega⟩
  refine (show ∃ fu9, mv_wp (mv_wpM mv_tab mv_sh d) mv_sh none tbX3_unshipped flX3 csX3 1 (fun _ _ _ _ _ => False) Q fu9 0 [some (.inr (.inr 1)), some (.inl w), some (.inl a)] [] I J from ?_)
  refine ⟨60, ?_⟩
  refine s_quotaOf (by omega) _ _ _ hn hv hw (fun r I2 f2 => ?_)
  refine And.intro (vp_in_iff.mpr ⟨hv.1, by have := hv.2; omega⟩) ?_
  exact h _ _ f2

set_option maxHeartbeats 1000000 in
theorem l_takeParts {d : Nat} {J : mv_J} {Q : mv_Q} {I0 : mv_I} (hw : rg (I0 1 2) 0 8) (h : ∀ (I' : mv_I), mg_fr [13] I0 I' → Q none I' J) : ∀ (k fu : Nat) (x : Int32) (I : mv_I), 0 ≤ x.toInt → mg_fr [13] I0 I → ((I0 1 2).toInt - x.toInt).toNat < k → 60 * k ≤ fu → mv_wp (mv_wpM mv_tab mv_sh d) mv_sh none tbX3_takeParts flX3 csX3 0 (fun _ _ _ _ _ => False) Q fu 2 [some (.inr (.inr 1)), some (.inr (.inr 23)), some (.inl x)] [] I J := by
  intro k
  induction k with
  | zero => intro fu x I h0 h1 h2 hf; omega
  | succ k ih =>
    intro fu x I h0 h1 h2 hf
    obtain ⟨fu, rfl⟩ : ∃ z, fu = z + 60 := ⟨fu - 60, by omega⟩
    have ew : I 1 = I0 1 := h1 1 rfl
    obtain ⟨hn0, hn1⟩ := id hw
    refine And.intro (fun q => ?_) (fun q => ?_)
    · exact h _ h1
    · have qx : x.toInt < (I0 1 2).toInt := by rw [ew] at q; (try simp only [mi_le, mi_lt, mi_eq] at *); have := mi_l; omega
      have e1 := mi_incl qx
      have B : vp_in x 8 := vp_in_iff.mpr ⟨by omega, by omega⟩
      refine And.intro B ?_
      refine And.intro (fun _ => ?_) (fun _ => ?_)
      · refine And.intro ?_ trivial
        exact ih _ _ _ (by omega) h1 (by omega) (by omega)
      · refine And.intro B ?_
        refine And.intro B ?_
        refine And.intro ?_ trivial
        exact ih _ _ _ (by omega) (mg_fr.up h1 rfl) (by omega) (by omega)
set_option maxHeartbeats 1000000 in
theorem s_takeParts {d : Nat} (hd : 1 ≤ d) {I : mv_I} {J : mv_J} {Q : mv_Q} (hw : rg (I 1 2) 0 8) (h : ∀ (I' : mv_I), mg_fr [13] I I' → Q none I' J) : mv_wpM mv_tab mv_sh d 24 [.inr (.inr 1), .inr (.inr 23)] I J Q := by
  obtain ⟨d, rfl⟩ : ∃ e, d = e + 1 := ⟨d - 1, by omega⟩
  refine (show ∃ fu9, mv_wp (mv_wpM mv_tab mv_sh d) mv_sh none tbX3_takeParts flX3 csX3 0 (fun _ _ _ _ _ => False) Q fu9 0 [some (.inr (.inr 1)), some (.inr (.inr 23)), none] [] I J from ?_)
  refine ⟨600, ?_⟩
  refine And.intro ?_ trivial
  exact l_takeParts hw h 9 _ _ _ (by decide) mg_fr.rf (by obtain ⟨hn0, hn1⟩ := hw; have := mi_l; omega) (Nat.le_of_ble_eq_true rfl)

set_option maxHeartbeats 1000000 in
theorem s_addWorks {d : Nat} (hd : 1 ≤ d) (a : Int32) {I : mv_I} {J : mv_J} {Q : mv_Q} (hw : rg (I 1 2) 0 8) (h0 : (I 1 2).toInt = 8 → Q (some (.inl (-3))) I J) (h1 : (I 1 2).toInt < 8 → Q (some (.inl (I 1 2 + 1 - 1))) (va_up (va_up I 13 (upd (I 13) (I 1 2).toNatClampNeg a)) 1 (upd (I 1) 2 (I 1 2 + 1))) J) : mv_wpM mv_tab mv_sh d 22 [.inr (.inr 1), .inl a] I J Q := by
  obtain ⟨d, rfl⟩ : ∃ e, d = e + 1 := ⟨d - 1, by omega⟩
  refine (show ∃ fu9, mv_wp (mv_wpM mv_tab mv_sh d) mv_sh none tbX3_addWorks flX3 csX3 1 (fun _ _ _ _ _ => False) Q fu9 0 [some (.inr (.inr 1)), some (.inl a)] [] I J from ?_)
  refine ⟨60, ?_⟩
  obtain ⟨hn0, hn1⟩ := id hw
  refine And.intro (fun q => ?_) (fun q => ?_)
  · have qx : (I 1 2).toInt < 8 := by (try simp only [mi_le, mi_lt, mi_eq] at *); have := mi_l; omega
    have B : vp_in (I 1 2) 8 := vp_in_iff.mpr ⟨by omega, by omega⟩
    refine And.intro B ?_
    exact h1 qx
  · exact h0 (by (try simp only [mi_le, mi_lt, mi_eq] at *); have := mi_l; omega)

set_option maxHeartbeats 1000000 in
theorem s_addEntry {d : Nat} (hd : 1 ≤ d) (c a b n f : Int32) {I : mv_I} {J : mv_J} {Q : mv_Q} (he : rg (I 1 9) 0 100) (h : ∀ (r : Int32) (I' : mv_I), mg_f2 [15, 16, 17, 18, 19] [(1, 9)] I I' → rg (I' 1 9) 0 100 → Q (some (.inl r)) I' J) : mv_wpM mv_tab mv_sh d 23 [.inr (.inr 1), .inl c, .inl a, .inl b, .inl n, .inl f] I J Q := by
  obtain ⟨d, rfl⟩ : ∃ e, d = e + 1 := ⟨d - 1, by omega⟩
  refine (show ∃ fu9, mv_wp (mv_wpM mv_tab mv_sh d) mv_sh none tbX3_addEntry flX3 csX3 1 (fun _ _ _ _ _ => False) Q fu9 0 [some (.inr (.inr 1)), some (.inl c), some (.inl a), some (.inl b), some (.inl n), some (.inl f)] [] I J from ?_)
  refine ⟨60, ?_⟩
  obtain ⟨hn0, hn1⟩ := id he
  refine And.intro (fun q => ?_) (fun q => ?_)
  · have qx : (I 1 9).toInt < 100 := by (try simp only [mi_le, mi_lt, mi_eq] at *); have := mi_l; omega
    have B : vp_in (I 1 9) 100 := vp_in_iff.mpr ⟨by omega, by omega⟩
    have e1 := mi_inc qx (by omega)
    refine And.intro B ?_
    refine And.intro B ?_
    refine And.intro B ?_
    refine And.intro B ?_
    refine And.intro B ?_
    refine h _ _ (by repeat (first | exact mg_f2.rf | assumption | refine mg_f2.up ?_ rfl | refine mg_f2.uf ?_ rfl)) ?_
    show rg (I 1 9 + 1) 0 100
    exact ⟨by omega, by omega⟩
  · exact h _ _ mg_f2.rf he

