theorem l_fill23 {d : Nat} {v : Int32} {J : mv_J} {Q : mv_Q} : ∀ (k i fu : Nat) (x : Int32) (I : mv_I), x = nI i → i + k = 8 → 20 * k + 20 ≤ fu → Q none (va_up I 23 (fun j => if i ≤ j ∧ j < 8 then v else I 23 j)) J → mv_wp (mv_wpM mv_tab mv_sh d) mv_sh none tbJ7_fill_53178 flJ7 csJ7 0 (fun _ _ _ _ _ => False) Q (fu) 5 [some (.inr (.inr 23)), some (.inl v), some (.inl x), some (.inl (nI 8))] [] I J := by
  intro k
  induction k with
  | zero =>
    intro i fu x I ex hi hf h
    subst ex
    obtain ⟨fu, rfl⟩ : ∃ z, fu = z + 20 := ⟨fu - 20, by omega⟩
    have e : i = 8 := by omega
    subst e
    refine And.intro (fun q => ?_) (fun q => absurd (Int32.le_refl _) q)
    have e : va_up I 23 (fun j => if 8 ≤ j ∧ j < 8 then v else I 23 j) = I := by
      funext c
      by_cases hc : c = 23
      · subst hc
        rw [va_up_self]
        funext j
        rw [if_neg (by omega)]
      · rw [va_up_ne _ _ hc]
    rw [e] at h
    exact h
  | succ k ih =>
    intro i fu x I ex hi hf h
    subst ex
    obtain ⟨fu, rfl⟩ : ∃ z, fu = z + 20 := ⟨fu - 20, by omega⟩
    refine And.intro (fun q => absurd q (nI_ge (by omega) (by decide))) (fun q => ?_)
    refine And.intro (vp_in_nI (by omega) (by decide)) ?_
    refine And.intro ?_ trivial
    refine ih (i + 1) _ _ _ (nI_1 i) (by omega) (by omega) ?_
    rw [nI_clamp (show i < 2 ^ 31 by omega)]
    have e : va_up (va_up I 23 (upd (I 23) i v)) 23 (fun j => if i + 1 ≤ j ∧ j < 8 then v else va_up I 23 (upd (I 23) i v) 23 j) = va_up I 23 (fun j => if i ≤ j ∧ j < 8 then v else I 23 j) := by
      rw [bx_uu]
      congr 1
      funext j
      rw [va_up_self]
      unfold upd
      by_cases h1 : j = i
      · subst h1
        rw [if_neg (by omega), if_pos rfl, if_pos (by omega)]
      · by_cases h2 : i + 1 ≤ j ∧ j < 8
        · rw [if_pos h2, if_pos (by omega)]
        · rw [if_neg h2, if_neg h1, if_neg (by omega)]
    rw [e]
    exact h
set_option maxHeartbeats 1000000 in
theorem c_fill23 {d : Nat} (hd : 1 ≤ d) (v : Int32) {I : mv_I} {J : mv_J} {Q : mv_Q} (h : Q none (va_up I 23 (fun j => if 0 ≤ j ∧ j < 8 then v else I 23 j)) J) : mv_wpM mv_tab mv_sh d 18 [.inr (.inr 23), .inl v] I J Q := by
  obtain ⟨d, rfl⟩ : ∃ e, d = e + 1 := ⟨d - 1, by omega⟩
  refine (show ∃ fu9, mv_wp (mv_wpM mv_tab mv_sh d) mv_sh none tbJ7_fill_53178 flJ7 csJ7 0 (fun _ _ _ _ _ => False) Q fu9 0 [some (.inr (.inr 23)), some (.inl v), none, none] [] I J from ?_)
  refine ⟨225, ?_⟩
  refine And.intro ?_ trivial
  exact l_fill23 8 0 _ _ _ nI_0.symm (by omega) (Nat.le_of_ble_eq_true rfl) h

theorem l_fill47 {d : Nat} {v : Int32} {J : mv_J} {Q : mv_Q} : ∀ (k i fu : Nat) (x : Int32) (I : mv_I), x = nI i → i + k = 60 → 20 * k + 20 ≤ fu → Q none (va_up I 47 (fun j => if i ≤ j ∧ j < 60 then v else I 47 j)) J → mv_wp (mv_wpM mv_tab mv_sh d) mv_sh none tbJ7_fill_53178 flJ7 csJ7 0 (fun _ _ _ _ _ => False) Q (fu) 5 [some (.inr (.inr 47)), some (.inl v), some (.inl x), some (.inl (nI 60))] [] I J := by
  intro k
  induction k with
  | zero =>
    intro i fu x I ex hi hf h
    subst ex
    obtain ⟨fu, rfl⟩ : ∃ z, fu = z + 20 := ⟨fu - 20, by omega⟩
    have e : i = 60 := by omega
    subst e
    refine And.intro (fun q => ?_) (fun q => absurd (Int32.le_refl _) q)
    have e : va_up I 47 (fun j => if 60 ≤ j ∧ j < 60 then v else I 47 j) = I := by
      funext c
      by_cases hc : c = 47
      · subst hc
        rw [va_up_self]
        funext j
        rw [if_neg (by omega)]
      · rw [va_up_ne _ _ hc]
    rw [e] at h
    exact h
  | succ k ih =>
    intro i fu x I ex hi hf h
    subst ex
    obtain ⟨fu, rfl⟩ : ∃ z, fu = z + 20 := ⟨fu - 20, by omega⟩
    refine And.intro (fun q => absurd q (nI_ge (by omega) (by decide))) (fun q => ?_)
    refine And.intro (vp_in_nI (by omega) (by decide)) ?_
    refine And.intro ?_ trivial
    refine ih (i + 1) _ _ _ (nI_1 i) (by omega) (by omega) ?_
    rw [nI_clamp (show i < 2 ^ 31 by omega)]
    have e : va_up (va_up I 47 (upd (I 47) i v)) 47 (fun j => if i + 1 ≤ j ∧ j < 60 then v else va_up I 47 (upd (I 47) i v) 47 j) = va_up I 47 (fun j => if i ≤ j ∧ j < 60 then v else I 47 j) := by
      rw [bx_uu]
      congr 1
      funext j
      rw [va_up_self]
      unfold upd
      by_cases h1 : j = i
      · subst h1
        rw [if_neg (by omega), if_pos rfl, if_pos (by omega)]
      · by_cases h2 : i + 1 ≤ j ∧ j < 60
        · rw [if_pos h2, if_pos (by omega)]
        · rw [if_neg h2, if_neg h1, if_neg (by omega)]
    rw [e]
    exact h
set_option maxHeartbeats 1000000 in
theorem c_fill47 {d : Nat} (hd : 1 ≤ d) (v : Int32) {I : mv_I} {J : mv_J} {Q : mv_Q} (h : Q none (va_up I 47 (fun j => if 0 ≤ j ∧ j < 60 then v else I 47 j)) J) : mv_wpM mv_tab mv_sh d 18 [.inr (.inr 47), .inl v] I J Q := by
  obtain ⟨d, rfl⟩ : ∃ e, d = e + 1 := ⟨d - 1, by omega⟩
  refine (show ∃ fu9, mv_wp (mv_wpM mv_tab mv_sh d) mv_sh none tbJ7_fill_53178 flJ7 csJ7 0 (fun _ _ _ _ _ => False) Q fu9 0 [some (.inr (.inr 47)), some (.inl v), none, none] [] I J from ?_)
  refine ⟨1265, ?_⟩
  refine And.intro ?_ trivial
  exact l_fill47 60 0 _ _ _ nI_0.symm (by omega) (Nat.le_of_ble_eq_true rfl) h

theorem l_fill48 {d : Nat} {v : Int32} {J : mv_J} {Q : mv_Q} : ∀ (k i fu : Nat) (x : Int32) (I : mv_I), x = nI i → i + k = 60 → 20 * k + 20 ≤ fu → Q none (va_up I 48 (fun j => if i ≤ j ∧ j < 60 then v else I 48 j)) J → mv_wp (mv_wpM mv_tab mv_sh d) mv_sh none tbJ7_fill_53178 flJ7 csJ7 0 (fun _ _ _ _ _ => False) Q (fu) 5 [some (.inr (.inr 48)), some (.inl v), some (.inl x), some (.inl (nI 60))] [] I J := by
  intro k
  induction k with
  | zero =>
    intro i fu x I ex hi hf h
    subst ex
    obtain ⟨fu, rfl⟩ : ∃ z, fu = z + 20 := ⟨fu - 20, by omega⟩
    have e : i = 60 := by omega
    subst e
    refine And.intro (fun q => ?_) (fun q => absurd (Int32.le_refl _) q)
    have e : va_up I 48 (fun j => if 60 ≤ j ∧ j < 60 then v else I 48 j) = I := by
      funext c
      by_cases hc : c = 48
      · subst hc
        rw [va_up_self]
        funext j
        rw [if_neg (by omega)]
      · rw [va_up_ne _ _ hc]
    rw [e] at h
    exact h
  | succ k ih =>
    intro i fu x I ex hi hf h
    subst ex
    obtain ⟨fu, rfl⟩ : ∃ z, fu = z + 20 := ⟨fu - 20, by omega⟩
    refine And.intro (fun q => absurd q (nI_ge (by omega) (by decide))) (fun q => ?_)
    refine And.intro (vp_in_nI (by omega) (by decide)) ?_
    refine And.intro ?_ trivial
    refine ih (i + 1) _ _ _ (nI_1 i) (by omega) (by omega) ?_
    rw [nI_clamp (show i < 2 ^ 31 by omega)]
    have e : va_up (va_up I 48 (upd (I 48) i v)) 48 (fun j => if i + 1 ≤ j ∧ j < 60 then v else va_up I 48 (upd (I 48) i v) 48 j) = va_up I 48 (fun j => if i ≤ j ∧ j < 60 then v else I 48 j) := by
      rw [bx_uu]
      congr 1
      funext j
      rw [va_up_self]
      unfold upd
      by_cases h1 : j = i
      · subst h1
        rw [if_neg (by omega), if_pos rfl, if_pos (by omega)]
      · by_cases h2 : i + 1 ≤ j ∧ j < 60
        · rw [if_pos h2, if_pos (by omega)]
        · rw [if_neg h2, if_neg h1, if_neg (by omega)]
    rw [e]
    exact h
set_option maxHeartbeats 1000000 in
theorem c_fill48 {d : Nat} (hd : 1 ≤ d) (v : Int32) {I : mv_I} {J : mv_J} {Q : mv_Q} (h : Q none (va_up I 48 (fun j => if 0 ≤ j ∧ j < 60 then v else I 48 j)) J) : mv_wpM mv_tab mv_sh d 18 [.inr (.inr 48), .inl v] I J Q := by
  obtain ⟨d, rfl⟩ : ∃ e, d = e + 1 := ⟨d - 1, by omega⟩
  refine (show ∃ fu9, mv_wp (mv_wpM mv_tab mv_sh d) mv_sh none tbJ7_fill_53178 flJ7 csJ7 0 (fun _ _ _ _ _ => False) Q fu9 0 [some (.inr (.inr 48)), some (.inl v), none, none] [] I J from ?_)
  refine ⟨1265, ?_⟩
  refine And.intro ?_ trivial
  exact l_fill48 60 0 _ _ _ nI_0.symm (by omega) (Nat.le_of_ble_eq_true rfl) h

theorem l_fill49 {d : Nat} {v : Int32} {J : mv_J} {Q : mv_Q} : ∀ (k i fu : Nat) (x : Int32) (I : mv_I), x = nI i → i + k = 60 → 20 * k + 20 ≤ fu → Q none (va_up I 49 (fun j => if i ≤ j ∧ j < 60 then v else I 49 j)) J → mv_wp (mv_wpM mv_tab mv_sh d) mv_sh none tbJ7_fill_53178 flJ7 csJ7 0 (fun _ _ _ _ _ => False) Q (fu) 5 [some (.inr (.inr 49)), some (.inl v), some (.inl x), some (.inl (nI 60))] [] I J := by
  intro k
  induction k with
  | zero =>
    intro i fu x I ex hi hf h
    subst ex
    obtain ⟨fu, rfl⟩ : ∃ z, fu = z + 20 := ⟨fu - 20, by omega⟩
    have e : i = 60 := by omega
    subst e
    refine And.intro (fun q => ?_) (fun q => absurd (Int32.le_refl _) q)
    have e : va_up I 49 (fun j => if 60 ≤ j ∧ j < 60 then v else I 49 j) = I := by
      funext c
      by_cases hc : c = 49
      · subst hc
        rw [va_up_self]
        funext j
        rw [if_neg (by omega)]
      · rw [va_up_ne _ _ hc]
    rw [e] at h
    exact h
  | succ k ih =>
    intro i fu x I ex hi hf h
    subst ex
    obtain ⟨fu, rfl⟩ : ∃ z, fu = z + 20 := ⟨fu - 20, by omega⟩
    refine And.intro (fun q => absurd q (nI_ge (by omega) (by decide))) (fun q => ?_)
    refine And.intro (vp_in_nI (by omega) (by decide)) ?_
    refine And.intro ?_ trivial
    refine ih (i + 1) _ _ _ (nI_1 i) (by omega) (by omega) ?_
    rw [nI_clamp (show i < 2 ^ 31 by omega)]
    have e : va_up (va_up I 49 (upd (I 49) i v)) 49 (fun j => if i + 1 ≤ j ∧ j < 60 then v else va_up I 49 (upd (I 49) i v) 49 j) = va_up I 49 (fun j => if i ≤ j ∧ j < 60 then v else I 49 j) := by
      rw [bx_uu]
      congr 1
      funext j
      rw [va_up_self]
      unfold upd
      by_cases h1 : j = i
      · subst h1
        rw [if_neg (by omega), if_pos rfl, if_pos (by omega)]
      · by_cases h2 : i + 1 ≤ j ∧ j < 60
        · rw [if_pos h2, if_pos (by omega)]
        · rw [if_neg h2, if_neg h1, if_neg (by omega)]
    rw [e]
    exact h
set_option maxHeartbeats 1000000 in
theorem c_fill49 {d : Nat} (hd : 1 ≤ d) (v : Int32) {I : mv_I} {J : mv_J} {Q : mv_Q} (h : Q none (va_up I 49 (fun j => if 0 ≤ j ∧ j < 60 then v else I 49 j)) J) : mv_wpM mv_tab mv_sh d 18 [.inr (.inr 49), .inl v] I J Q := by
  obtain ⟨d, rfl⟩ : ∃ e, d = e + 1 := ⟨d - 1, by omega⟩
  refine (show ∃ fu9, mv_wp (mv_wpM mv_tab mv_sh d) mv_sh none tbJ7_fill_53178 flJ7 csJ7 0 (fun _ _ _ _ _ => False) Q fu9 0 [some (.inr (.inr 49)), some (.inl v), none, none] [] I J from ?_)
  refine ⟨1265, ?_⟩
  refine And.intro ?_ trivial
  exact l_fill49 60 0 _ _ _ nI_0.symm (by omega) (Nat.le_of_ble_eq_true rfl) h

theorem l_fill50 {d : Nat} {v : Int32} {J : mv_J} {Q : mv_Q} : ∀ (k i fu : Nat) (x : Int32) (I : mv_I), x = nI i → i + k = 60 → 20 * k + 20 ≤ fu → Q none (va_up I 50 (fun j => if i ≤ j ∧ j < 60 then v else I 50 j)) J → mv_wp (mv_wpM mv_tab mv_sh d) mv_sh none tbJ7_fill_53178 flJ7 csJ7 0 (fun _ _ _ _ _ => False) Q (fu) 5 [some (.inr (.inr 50)), some (.inl v), some (.inl x), some (.inl (nI 60))] [] I J := by
  intro k
  induction k with
  | zero =>
    intro i fu x I ex hi hf h
    subst ex
    obtain ⟨fu, rfl⟩ : ∃ z, fu = z + 20 := ⟨fu - 20, by omega⟩
    have e : i = 60 := by omega
    subst e
    refine And.intro (fun q => ?_) (fun q => absurd (Int32.le_refl _) q)
    have e : va_up I 50 (fun j => if 60 ≤ j ∧ j < 60 then v else I 50 j) = I := by
      funext c
      by_cases hc : c = 50
      · subst hc
        rw [va_up_self]
        funext j
        rw [if_neg (by omega)]
      · rw [va_up_ne _ _ hc]
    rw [e] at h
    exact h
  | succ k ih =>
    intro i fu x I ex hi hf h
    subst ex
    obtain ⟨fu, rfl⟩ : ∃ z, fu = z + 20 := ⟨fu - 20, by omega⟩
    refine And.intro (fun q => absurd q (nI_ge (by omega) (by decide))) (fun q => ?_)
    refine And.intro (vp_in_nI (by omega) (by decide)) ?_
    refine And.intro ?_ trivial
    refine ih (i + 1) _ _ _ (nI_1 i) (by omega) (by omega) ?_
    rw [nI_clamp (show i < 2 ^ 31 by omega)]
    have e : va_up (va_up I 50 (upd (I 50) i v)) 50 (fun j => if i + 1 ≤ j ∧ j < 60 then v else va_up I 50 (upd (I 50) i v) 50 j) = va_up I 50 (fun j => if i ≤ j ∧ j < 60 then v else I 50 j) := by
      rw [bx_uu]
      congr 1
      funext j
      rw [va_up_self]
      unfold upd
      by_cases h1 : j = i
      · subst h1
        rw [if_neg (by omega), if_pos rfl, if_pos (by omega)]
      · by_cases h2 : i + 1 ≤ j ∧ j < 60
        · rw [if_pos h2, if_pos (by omega)]
        · rw [if_neg h2, if_neg h1, if_neg (by omega)]
    rw [e]
    exact h
set_option maxHeartbeats 1000000 in
theorem c_fill50 {d : Nat} (hd : 1 ≤ d) (v : Int32) {I : mv_I} {J : mv_J} {Q : mv_Q} (h : Q none (va_up I 50 (fun j => if 0 ≤ j ∧ j < 60 then v else I 50 j)) J) : mv_wpM mv_tab mv_sh d 18 [.inr (.inr 50), .inl v] I J Q := by
  obtain ⟨d, rfl⟩ : ∃ e, d = e + 1 := ⟨d - 1, by omega⟩
  refine (show ∃ fu9, mv_wp (mv_wpM mv_tab mv_sh d) mv_sh none tbJ7_fill_53178 flJ7 csJ7 0 (fun _ _ _ _ _ => False) Q fu9 0 [some (.inr (.inr 50)), some (.inl v), none, none] [] I J from ?_)
  refine ⟨1265, ?_⟩
  refine And.intro ?_ trivial
  exact l_fill50 60 0 _ _ _ nI_0.symm (by omega) (Nat.le_of_ble_eq_true rfl) h

set_option maxHeartbeats 1000000 in
theorem f_begin0 {d : Nat} (hd : 2 ≤ d) (a b : Int32) {I : mv_I} {J : mv_J} {Q : mv_Q} (h : ∀ I' : mv_I, mv_md I I' → Q none I' J) : mv_wpM mv_tab mv_sh d 33 [.inr (.inr 8), .inl a, .inl b] I J Q := by
  obtain ⟨d, rfl⟩ : ∃ e, d = e + 1 := ⟨d - 1, by omega⟩
  refine (show ∃ fu9, mv_wp (mv_wpM mv_tab mv_sh d) mv_sh none tbX5_begin flX5 csX5 0 (fun _ _ _ _ _ => False) Q fu9 0 [some (.inr (.inr 8)), some (.inl a), some (.inl b)] [] I J from ?_)
  refine ⟨60, ?_⟩
  refine c_fill47 (by omega) 0 ?_
  exact h _ (by repeat (first | exact mv_md.rf | refine mv_md.up ?_ (by decide)))

set_option maxHeartbeats 1000000 in
theorem f_begin1 {d : Nat} (hd : 2 ≤ d) (a b : Int32) {I : mv_I} {J : mv_J} {Q : mv_Q} (h : ∀ I' : mv_I, mv_md I I' → Q none I' J) : mv_wpM mv_tab mv_sh d 33 [.inr (.inr 9), .inl a, .inl b] I J Q := by
  obtain ⟨d, rfl⟩ : ∃ e, d = e + 1 := ⟨d - 1, by omega⟩
  refine (show ∃ fu9, mv_wp (mv_wpM mv_tab mv_sh d) mv_sh none tbX5_begin flX5 csX5 0 (fun _ _ _ _ _ => False) Q fu9 0 [some (.inr (.inr 9)), some (.inl a), some (.inl b)] [] I J from ?_)
  refine ⟨60, ?_⟩
  refine c_fill48 (by omega) 0 ?_
  exact h _ (by repeat (first | exact mv_md.rf | refine mv_md.up ?_ (by decide)))

set_option maxHeartbeats 1000000 in
theorem f_begin2 {d : Nat} (hd : 2 ≤ d) (a b : Int32) {I : mv_I} {J : mv_J} {Q : mv_Q} (h : ∀ I' : mv_I, mv_md I I' → Q none I' J) : mv_wpM mv_tab mv_sh d 33 [.inr (.inr 10), .inl a, .inl b] I J Q := by
  obtain ⟨d, rfl⟩ : ∃ e, d = e + 1 := ⟨d - 1, by omega⟩
  refine (show ∃ fu9, mv_wp (mv_wpM mv_tab mv_sh d) mv_sh none tbX5_begin flX5 csX5 0 (fun _ _ _ _ _ => False) Q fu9 0 [some (.inr (.inr 10)), some (.inl a), some (.inl b)] [] I J from ?_)
  refine ⟨60, ?_⟩
  refine c_fill49 (by omega) 0 ?_
  exact h _ (by repeat (first | exact mv_md.rf | refine mv_md.up ?_ (by decide)))

set_option maxHeartbeats 1000000 in
theorem f_begin3 {d : Nat} (hd : 2 ≤ d) (a b : Int32) {I : mv_I} {J : mv_J} {Q : mv_Q} (h : ∀ I' : mv_I, mv_md I I' → Q none I' J) : mv_wpM mv_tab mv_sh d 33 [.inr (.inr 11), .inl a, .inl b] I J Q := by
  obtain ⟨d, rfl⟩ : ∃ e, d = e + 1 := ⟨d - 1, by omega⟩
  refine (show ∃ fu9, mv_wp (mv_wpM mv_tab mv_sh d) mv_sh none tbX5_begin flX5 csX5 0 (fun _ _ _ _ _ => False) Q fu9 0 [some (.inr (.inr 11)), some (.inl a), some (.inl b)] [] I J from ?_)
  refine ⟨60, ?_⟩
  refine c_fill50 (by omega) 0 ?_
  exact h _ (by repeat (first | exact mv_md.rf | refine mv_md.up ?_ (by decide)))

set_option maxHeartbeats 1000000 in
theorem f_sheet {d : Nat} (hd : 5 ≤ d) (a b c : Int32) {I : mv_I} {J : mv_J} {Q : mv_Q} (fr : mv_fr I) (h : ∀ (r : Int32) (I' : mv_I), mv_md I I' → r = v_sheet a b c → Q (some (.inl r)) I' J) : mv_wpM mv_tab mv_sh d 75 [.inr (.inr 0), .inl a, .inl b, .inl c] I J Q := by
  obtain ⟨d, rfl⟩ : ∃ e, d = e + 1 := ⟨d - 1, by omega⟩
  refine (show ∃ fu9, mv_wp (mv_wpM mv_tab mv_sh d) mv_sh none tbX7_sheet flX7 csX7 1 (fun _ _ _ _ _ => False) Q fu9 0 [some (.inr (.inr 0)), some (.inl a), some (.inl b), some (.inl c)] [] I J from ?_)
  refine ⟨80, ?_⟩
  refine c_isSheet (by omega) a (fun p => ?_) (fun p => ?_)
  · first | refine And.intro (fun z => absurd z (by decide)) (fun _ => ?_) | refine And.intro (fun _ => ?_) (fun z => absurd z (by decide))
    refine c_isLane (by omega) b (fun p1 => ?_) (fun p1 => ?_)
    · first | refine And.intro (fun z => absurd z (by decide)) (fun _ => ?_) | refine And.intro (fun _ => ?_) (fun z => absurd z (by decide))
      by_cases p2 : c ≤ 60
      · first | refine And.intro (fun q => ?_) (fun q => absurd q (fun q => by (simp only [mi_le, mi_lt, mi_eq] at *; have := mi_l; omega))) | refine And.intro (fun q => absurd q (fun q => by (simp only [mi_le, mi_lt, mi_eq] at *; have := mi_l; omega))) (fun q => ?_)
        by_cases p3 : c < 0
        · first | refine And.intro (fun q => ?_) (fun q => absurd q (fun q => by (simp only [mi_le, mi_lt, mi_eq] at *; have := mi_l; omega))) | refine And.intro (fun q => absurd q (fun q => by (simp only [mi_le, mi_lt, mi_eq] at *; have := mi_l; omega))) (fun q => ?_)
          exact h _ _ mv_md.rf ((if_pos p).trans ((if_pos p1).trans ((if_pos p2).trans (if_pos p3)))).symm
        · first | refine And.intro (fun q => ?_) (fun q => absurd q (fun q => by (simp only [mi_le, mi_lt, mi_eq] at *; have := mi_l; omega))) | refine And.intro (fun q => absurd q (fun q => by (simp only [mi_le, mi_lt, mi_eq] at *; have := mi_l; omega))) (fun q => ?_)
          refine And.intro (mi_s4 p) (And.intro (fun _ => ?_) (And.intro (fun _ => ?_) (And.intro (fun _ => ?_) (fun _ => ?_))))
          · exact f_begin0 (by omega) b c (fun I' m => h _ _ m ((if_pos p).trans ((if_pos p1).trans ((if_pos p2).trans (if_neg p3)))).symm)
          · exact f_begin1 (by omega) b c (fun I' m => h _ _ m ((if_pos p).trans ((if_pos p1).trans ((if_pos p2).trans (if_neg p3)))).symm)
          · exact f_begin2 (by omega) b c (fun I' m => h _ _ m ((if_pos p).trans ((if_pos p1).trans ((if_pos p2).trans (if_neg p3)))).symm)
          · exact f_begin3 (by omega) b c (fun I' m => h _ _ m ((if_pos p).trans ((if_pos p1).trans ((if_pos p2).trans (if_neg p3)))).symm)
      · first | refine And.intro (fun q => ?_) (fun q => absurd q (fun q => by (simp only [mi_le, mi_lt, mi_eq] at *; have := mi_l; omega))) | refine And.intro (fun q => absurd q (fun q => by (simp only [mi_le, mi_lt, mi_eq] at *; have := mi_l; omega))) (fun q => ?_)
        exact h _ _ mv_md.rf ((if_pos p).trans ((if_pos p1).trans (if_neg p2))).symm
    · first | refine And.intro (fun z => absurd z (by decide)) (fun _ => ?_) | refine And.intro (fun _ => ?_) (fun z => absurd z (by decide))
      exact h _ _ mv_md.rf ((if_pos p).trans (if_neg p1)).symm
  · first | refine And.intro (fun z => absurd z (by decide)) (fun _ => ?_) | refine And.intro (fun _ => ?_) (fun z => absurd z (by decide))
    exact h _ _ mv_md.rf (if_neg p).symm

theorem l_sheet {d : Nat} {b c : Int32} {J : mv_J} {Q : mv_Q} {z : Nat} (hz : z < 4) (h : ∀ I' : mv_I, Q (some (.inl c)) I' J) : ∀ (k i fu : Nat) (x : Int32) (I : mv_I), x = nI i → i + k = 60 → 20 * k + 20 ≤ fu → mv_wp (mv_wpM mv_tab mv_sh d) mv_sh none tbX8_sheet flX8 csX8 1 (fun _ _ _ _ _ => False) Q (fu) 48 [some (.inr (.inr 12)), some (.inl (nI z)), some (.inl b), some (.inl c), some (.inl x)] [] I J := by
  intro k
  induction k with
  | zero =>
    intro i fu x I ex hi hf
    subst ex
    obtain ⟨fu, rfl⟩ : ∃ z, fu = z + 20 := ⟨fu - 20, by omega⟩
    have e : i = 60 := by omega
    subst e
    refine And.intro (fun q => ?_) (fun q => absurd (show (60 : Int32) ≤ nI 60 by decide) q)
    exact h _
  | succ k ih =>
    intro i fu x I ex hi hf
    subst ex
    obtain ⟨fu, rfl⟩ : ∃ z, fu = z + 20 := ⟨fu - 20, by omega⟩
    refine And.intro (fun q => absurd (show nI 60 ≤ nI i from q) (nI_ge (by omega) (by decide))) (fun q => ?_)
    have e : (60 : Int32) * nI z + nI i = nI (60 * z + i) := by rw [show (60 : Int32) = nI 60 by decide, pk_mul, nI_add]
    refine And.intro (by rw [e]; exact vp_in_nI (by omega) (by decide)) ?_
    refine And.intro ?_ trivial
    exact ih (i + 1) _ _ _ (nI_1 i) (by omega) (by omega)
set_option maxHeartbeats 1000000 in
theorem g_sheet {d : Nat} (hd : 5 ≤ d) (a b c : Int32) {I : mv_I} {J : mv_J} {Q : mv_Q} (fm : mv_fm I) (h : ∀ (r : Int32) (I' : mv_I) (J' : mv_J), r = v_sheet a b c → Q (some (.inl r)) I' J') : mv_wpM mv_tab mv_sh d 124 [.inr (.inr 12), .inl a, .inl b, .inl c] I J Q := by
  obtain ⟨d, rfl⟩ : ∃ e, d = e + 1 := ⟨d - 1, by omega⟩
  refine (show ∃ fu9, mv_wp (mv_wpM mv_tab mv_sh d) mv_sh none tbX8_sheet flX8 csX8 1 (fun _ _ _ _ _ => False) Q fu9 0 [some (.inr (.inr 12)), some (.inl a), some (.inl b), some (.inl c), none] [] I J from ?_)
  refine ⟨1400, ?_⟩
  refine c8_isSheet (by omega) a (fun p => ?_) (fun p => ?_)
  · first | refine And.intro (fun z => absurd z (by decide)) (fun _ => ?_) | refine And.intro (fun _ => ?_) (fun z => absurd z (by decide))
    refine c_in (by omega) b 0 2 (fun p1 => ?_) (fun p1 => ?_)
    · first | refine And.intro (fun z => absurd z (by decide)) (fun _ => ?_) | refine And.intro (fun _ => ?_) (fun z => absurd z (by decide))
      by_cases p2 : c ≤ 60
      · first | refine And.intro (fun q => ?_) (fun q => absurd q (fun q => by (simp only [mi_le, mi_lt, mi_eq] at *; have := mi_l; omega))) | refine And.intro (fun q => absurd q (fun q => by (simp only [mi_le, mi_lt, mi_eq] at *; have := mi_l; omega))) (fun q => ?_)
        by_cases p3 : c < 0
        · first | refine And.intro (fun q => ?_) (fun q => absurd q (fun q => by (simp only [mi_le, mi_lt, mi_eq] at *; have := mi_l; omega))) | refine And.intro (fun q => absurd q (fun q => by (simp only [mi_le, mi_lt, mi_eq] at *; have := mi_l; omega))) (fun q => ?_)
          exact h _ _ _ ((if_pos p).trans ((if_pos p1).trans ((if_pos p2).trans (if_pos p3)))).symm
        · first | refine And.intro (fun q => ?_) (fun q => absurd q (fun q => by (simp only [mi_le, mi_lt, mi_eq] at *; have := mi_l; omega))) | refine And.intro (fun q => absurd q (fun q => by (simp only [mi_le, mi_lt, mi_eq] at *; have := mi_l; omega))) (fun q => ?_)
          refine And.intro (mi_s4 p) ?_
          refine And.intro (mi_s4 p) ?_
          refine And.intro ?_ trivial
          obtain ⟨z, hz, ez⟩ := vp_in_of (mi_s4 p) (by decide)
          have hv : v_sheet a b c = c := (if_pos p).trans ((if_pos p1).trans ((if_pos p2).trans (if_neg p3)))
          subst ez
          exact l_sheet hz (fun I' => h _ _ _ hv.symm) 60 0 _ _ _ nI_0.symm (by omega) (Nat.le_of_ble_eq_true rfl)
      · first | refine And.intro (fun q => ?_) (fun q => absurd q (fun q => by (simp only [mi_le, mi_lt, mi_eq] at *; have := mi_l; omega))) | refine And.intro (fun q => absurd q (fun q => by (simp only [mi_le, mi_lt, mi_eq] at *; have := mi_l; omega))) (fun q => ?_)
        exact h _ _ _ ((if_pos p).trans ((if_pos p1).trans (if_neg p2))).symm
    · first | refine And.intro (fun z => absurd z (by decide)) (fun _ => ?_) | refine And.intro (fun _ => ?_) (fun z => absurd z (by decide))
      exact h _ _ _ ((if_pos p).trans (if_neg p1)).symm
  · first | refine And.intro (fun z => absurd z (by decide)) (fun _ => ?_) | refine And.intro (fun _ => ?_) (fun z => absurd z (by decide))
    exact h _ _ _ (if_neg p).symm

theorem l_takenOnb {d : Nat} {a x0 : Int32} {I : mv_I} {J : mv_J} {Q : mv_Q} (f : ∀ j, j < 60 → I 38 j = -1) (hx : x0.toInt < 0) (h : Q (some (.inl 0)) I J) : ∀ (k i fu : Nat) (x : Int32), x = nI i → i + k = 60 → 20 * k + 40 ≤ fu → mv_wp (mv_wpM mv_tab mv_sh d) mv_sh none tbX4_takenOn flX4 csX4 1 (fun _ _ _ _ _ => False) Q (fu) 23 [some (.inr (.inr 5)), some (.inl a), some (.inl x0), some (.inl x)] [] I J := by
  intro k
  induction k with
  | zero =>
    intro i fu x ex hi hf
    subst ex
    obtain ⟨fu, rfl⟩ : ∃ z, fu = z + 40 := ⟨fu - 40, by omega⟩
    have e : i = 60 := by omega
    subst e
    have e60 : (nI 60).toInt = 60 := by decide
    first | refine And.intro (fun q => ?_) (fun q => absurd q (fun q => by (simp only [mi_le, mi_lt, mi_eq] at *; have := mi_l; omega))) | refine And.intro (fun q => absurd q (fun q => by (simp only [mi_le, mi_lt, mi_eq] at *; have := mi_l; omega))) (fun q => ?_)
    first | refine And.intro (fun q => ?_) (fun q => absurd q (fun q => by (simp only [mi_le, mi_lt, mi_eq] at *; have := mi_l; omega))) | refine And.intro (fun q => absurd q (fun q => by (simp only [mi_le, mi_lt, mi_eq] at *; have := mi_l; omega))) (fun q => ?_)
    first | refine And.intro (fun q => ?_) (fun q => absurd q (fun q => by (simp only [mi_le, mi_lt, mi_eq] at *; have := mi_l; omega))) | refine And.intro (fun q => absurd q (fun q => by (simp only [mi_le, mi_lt, mi_eq] at *; have := mi_l; omega))) (fun q => ?_)
    exact h
  | succ k ih =>
    intro i fu x ex hi hf
    subst ex
    obtain ⟨fu, rfl⟩ : ∃ z, fu = z + 40 := ⟨fu - 40, by omega⟩
    refine And.intro (fun q => absurd (show nI 60 ≤ nI i from q) (nI_ge (by omega) (by decide))) (fun q => ?_)
    refine And.intro (vp_in_nI (by omega) (by decide)) ?_
    have e : I 38 (nI i).toNatClampNeg = -1 := by rw [nI_clamp (by omega)]; exact f i (by omega)
    first | refine And.intro (fun q => ?_) (fun q => absurd q (fun q => by (simp only [mi_le, mi_lt, mi_eq] at *; have := mi_l; omega))) | refine And.intro (fun q => absurd q (fun q => by (simp only [mi_le, mi_lt, mi_eq] at *; have := mi_l; omega))) (fun q => ?_)
    refine And.intro ?_ trivial
    exact ih (i + 1) _ _ (nI_1 i) (by omega) (by omega)
theorem l_takenOna {d : Nat} {a : Int32} {I : mv_I} {J : mv_J} {Q : mv_Q} (f : ∀ j, j < 60 → I 38 j = -1) (ha : vp_in a 60) (h : Q (some (.inl 0)) I J) : ∀ (k fu : Nat) (x : Int32), x.toInt = (k : Int) - 1 → k ≤ 60 → 20 * k + 1400 ≤ fu → mv_wp (mv_wpM mv_tab mv_sh d) mv_sh none tbX4_takenOn flX4 csX4 1 (fun _ _ _ _ _ => False) Q (fu) 2 [some (.inr (.inr 5)), some (.inl a), some (.inl x), none] [] I J := by
  intro k
  induction k with
  | zero =>
    intro fu x ex hi hf
    obtain ⟨fu, rfl⟩ : ∃ z, fu = z + 20 := ⟨fu - 20, by omega⟩
    first | refine And.intro (fun q => ?_) (fun q => absurd q (fun q => by (simp only [mi_le, mi_lt, mi_eq] at *; have := mi_l; omega))) | refine And.intro (fun q => absurd q (fun q => by (simp only [mi_le, mi_lt, mi_eq] at *; have := mi_l; omega))) (fun q => ?_)
    refine And.intro ?_ trivial
    obtain ⟨z, hz, ez⟩ := vp_in_of ha (by decide)
    exact l_takenOnb f (by omega) h (60 - z) z _ _ ez (by omega) (by omega)
  | succ k ih =>
    intro fu x ex hi hf
    obtain ⟨fu, rfl⟩ : ∃ z, fu = z + 20 := ⟨fu - 20, by omega⟩
    first | refine And.intro (fun q => ?_) (fun q => absurd q (fun q => by (simp only [mi_le, mi_lt, mi_eq] at *; have := mi_l; omega))) | refine And.intro (fun q => absurd q (fun q => by (simp only [mi_le, mi_lt, mi_eq] at *; have := mi_l; omega))) (fun q => ?_)
    have hv : vp_in x 60 := mi_in (by omega) (by omega)
    refine And.intro hv ?_
    have e : I 38 x.toNatClampNeg = -1 := by
      obtain ⟨z, hz, ez⟩ := vp_in_of hv (by decide)
      rw [ez, nI_clamp (by omega)]
      exact f z hz
    first | refine And.intro (fun q => ?_) (fun q => absurd q (fun q => by (simp only [mi_le, mi_lt, mi_eq] at *; have := mi_l; omega))) | refine And.intro (fun q => absurd q (fun q => by (simp only [mi_le, mi_lt, mi_eq] at *; have := mi_l; omega))) (fun q => ?_)
    refine And.intro ?_ trivial
    refine ih _ _ ?_ (by omega) (by omega)
    obtain ⟨z, hz, ez⟩ := vp_in_of hv (by decide)
    rw [ez] at ex ⊢
    have e1 : (nI z).toInt = z := nI_toInt (by omega)
    have hk : z = k := by omega
    subst hk
    cases z with
    | zero => decide
    | succ z =>
      rw [pk_m1, nI_toInt (by omega)]
      omega
set_option maxHeartbeats 1000000 in
theorem c_takenOn {d : Nat} (hd : 1 ≤ d) (a : Int32) {I : mv_I} {J : mv_J} {Q : mv_Q} (f : ∀ j, j < 60 → I 38 j = -1) (ha : vp_in a 60) (h : Q (some (.inl 0)) I J) : mv_wpM mv_tab mv_sh d 13 [.inr (.inr 5), .inl a] I J Q := by
  obtain ⟨d, rfl⟩ : ∃ e, d = e + 1 := ⟨d - 1, by omega⟩
  refine (show ∃ fu9, mv_wp (mv_wpM mv_tab mv_sh d) mv_sh none tbX4_takenOn flX4 csX4 1 (fun _ _ _ _ _ => False) Q fu9 0 [some (.inr (.inr 5)), some (.inl a), none, none] [] I J from ?_)
  refine ⟨4000, ?_⟩
  refine And.intro ?_ trivial
  obtain ⟨z, hz, ez⟩ := vp_in_of ha (by decide)
  exact l_takenOna f ha h (z + 1) _ _ (by rw [ez, nI_toInt (by omega)]; omega) (by omega) (Nat.le_trans (show 20 * (z + 1) + 1400 ≤ 3900 by omega) (Nat.le_of_ble_eq_true rfl))

theorem l_takenb {d : Nat} {a x0 : Int32} {I : mv_I} {J : mv_J} {Q : mv_Q} (f : ∀ j, j < 60 → I 73 j = -1) (hx : x0.toInt < 0) (h : Q (some (.inl 0)) I J) : ∀ (k i fu : Nat) (x : Int32), x = nI i → i + k = 60 → 20 * k + 40 ≤ fu → mv_wp (mv_wpM mv_tab mv_sh d) mv_sh none tbX8_taken flX8 csX8 1 (fun _ _ _ _ _ => False) Q (fu) 23 [some (.inr (.inr 12)), some (.inl a), some (.inl x0), some (.inl x)] [] I J := by
  intro k
  induction k with
  | zero =>
    intro i fu x ex hi hf
    subst ex
    obtain ⟨fu, rfl⟩ : ∃ z, fu = z + 40 := ⟨fu - 40, by omega⟩
    have e : i = 60 := by omega
    subst e
    have e60 : (nI 60).toInt = 60 := by decide
    first | refine And.intro (fun q => ?_) (fun q => absurd q (fun q => by (simp only [mi_le, mi_lt, mi_eq] at *; have := mi_l; omega))) | refine And.intro (fun q => absurd q (fun q => by (simp only [mi_le, mi_lt, mi_eq] at *; have := mi_l; omega))) (fun q => ?_)
    first | refine And.intro (fun q => ?_) (fun q => absurd q (fun q => by (simp only [mi_le, mi_lt, mi_eq] at *; have := mi_l; omega))) | refine And.intro (fun q => absurd q (fun q => by (simp only [mi_le, mi_lt, mi_eq] at *; have := mi_l; omega))) (fun q => ?_)
    first | refine And.intro (fun q => ?_) (fun q => absurd q (fun q => by (simp only [mi_le, mi_lt, mi_eq] at *; have := mi_l; omega))) | refine And.intro (fun q => absurd q (fun q => by (simp only [mi_le, mi_lt, mi_eq] at *; have := mi_l; omega))) (fun q => ?_)
    first | refine And.intro (fun q => ?_) (fun q => absurd q (fun q => by (simp only [mi_le, mi_lt, mi_eq] at *; have := mi_l; omega))) | refine And.intro (fun q => absurd q (fun q => by (simp only [mi_le, mi_lt, mi_eq] at *; have := mi_l; omega))) (fun q => ?_)
    exact h
  | succ k ih =>
    intro i fu x ex hi hf
    subst ex
    obtain ⟨fu, rfl⟩ : ∃ z, fu = z + 40 := ⟨fu - 40, by omega⟩
    refine And.intro (fun q => absurd (show nI 60 ≤ nI i from q) (nI_ge (by omega) (by decide))) (fun q => ?_)
    refine And.intro (vp_in_nI (by omega) (by decide)) ?_
    have e : I 73 (nI i).toNatClampNeg = -1 := by rw [nI_clamp (by omega)]; exact f i (by omega)
    first | refine And.intro (fun q => ?_) (fun q => absurd q (fun q => by (simp only [mi_le, mi_lt, mi_eq] at *; have := mi_l; omega))) | refine And.intro (fun q => absurd q (fun q => by (simp only [mi_le, mi_lt, mi_eq] at *; have := mi_l; omega))) (fun q => ?_)
    refine And.intro ?_ trivial
    exact ih (i + 1) _ _ (nI_1 i) (by omega) (by omega)
theorem l_takena {d : Nat} {a : Int32} {I : mv_I} {J : mv_J} {Q : mv_Q} (f : ∀ j, j < 60 → I 73 j = -1) (ha : vp_in a 60) (h : Q (some (.inl 0)) I J) : ∀ (k fu : Nat) (x : Int32), x.toInt = (k : Int) - 1 → k ≤ 60 → 20 * k + 1400 ≤ fu → mv_wp (mv_wpM mv_tab mv_sh d) mv_sh none tbX8_taken flX8 csX8 1 (fun _ _ _ _ _ => False) Q (fu) 2 [some (.inr (.inr 12)), some (.inl a), some (.inl x), none] [] I J := by
  intro k
  induction k with
  | zero =>
    intro fu x ex hi hf
    obtain ⟨fu, rfl⟩ : ∃ z, fu = z + 20 := ⟨fu - 20, by omega⟩
    first | refine And.intro (fun q => ?_) (fun q => absurd q (fun q => by (simp only [mi_le, mi_lt, mi_eq] at *; have := mi_l; omega))) | refine And.intro (fun q => absurd q (fun q => by (simp only [mi_le, mi_lt, mi_eq] at *; have := mi_l; omega))) (fun q => ?_)
    refine And.intro ?_ trivial
    obtain ⟨z, hz, ez⟩ := vp_in_of ha (by decide)
    exact l_takenb f (by omega) h (60 - z) z _ _ ez (by omega) (by omega)
  | succ k ih =>
    intro fu x ex hi hf
    obtain ⟨fu, rfl⟩ : ∃ z, fu = z + 20 := ⟨fu - 20, by omega⟩
    first | refine And.intro (fun q => ?_) (fun q => absurd q (fun q => by (simp only [mi_le, mi_lt, mi_eq] at *; have := mi_l; omega))) | refine And.intro (fun q => absurd q (fun q => by (simp only [mi_le, mi_lt, mi_eq] at *; have := mi_l; omega))) (fun q => ?_)
    have hv : vp_in x 60 := mi_in (by omega) (by omega)
    refine And.intro hv ?_
    have e : I 73 x.toNatClampNeg = -1 := by
      obtain ⟨z, hz, ez⟩ := vp_in_of hv (by decide)
      rw [ez, nI_clamp (by omega)]
      exact f z hz
    first | refine And.intro (fun q => ?_) (fun q => absurd q (fun q => by (simp only [mi_le, mi_lt, mi_eq] at *; have := mi_l; omega))) | refine And.intro (fun q => absurd q (fun q => by (simp only [mi_le, mi_lt, mi_eq] at *; have := mi_l; omega))) (fun q => ?_)
    refine And.intro ?_ trivial
    refine ih _ _ ?_ (by omega) (by omega)
    obtain ⟨z, hz, ez⟩ := vp_in_of hv (by decide)
    rw [ez] at ex ⊢
    have e1 : (nI z).toInt = z := nI_toInt (by omega)
    have hk : z = k := by omega
    subst hk
    cases z with
    | zero => decide
    | succ z =>
      rw [pk_m1, nI_toInt (by omega)]
      omega
set_option maxHeartbeats 1000000 in
theorem c_taken {d : Nat} (hd : 1 ≤ d) (a : Int32) {I : mv_I} {J : mv_J} {Q : mv_Q} (f : ∀ j, j < 60 → I 73 j = -1) (ha : vp_in a 60) (h : Q (some (.inl 0)) I J) : mv_wpM mv_tab mv_sh d 111 [.inr (.inr 12), .inl a] I J Q := by
  obtain ⟨d, rfl⟩ : ∃ e, d = e + 1 := ⟨d - 1, by omega⟩
  refine (show ∃ fu9, mv_wp (mv_wpM mv_tab mv_sh d) mv_sh none tbX8_taken flX8 csX8 1 (fun _ _ _ _ _ => False) Q fu9 0 [some (.inr (.inr 12)), some (.inl a), none, none] [] I J from ?_)
  refine ⟨4000, ?_⟩
  refine And.intro ?_ trivial
  obtain ⟨z, hz, ez⟩ := vp_in_of ha (by decide)
  exact l_takena f ha h (z + 1) _ _ (by rw [ez, nI_toInt (by omega)]; omega) (by omega) (Nat.le_trans (show 20 * (z + 1) + 1400 ≤ 3900 by omega) (Nat.le_of_ble_eq_true rfl))

theorem mi_60 {a : Int32} (h : 0 ≤ a ∧ a ≤ 59) : vp_in a 60 := by
  simp only [mi_le] at h
  have := mi_l
  exact mi_in (by omega) (by omega)
set_option maxHeartbeats 1000000 in
theorem f_sea {d : Nat} (hd : 4 ≤ d) (a : Int32) {I : mv_I} {J : mv_J} {Q : mv_Q} (fr : mv_fr I) (h : ∀ (r : Int32) (I' : mv_I), mv_md I I' → r = v_sea a → Q (some (.inl r)) I' J) : mv_wpM mv_tab mv_sh d 70 [.inr (.inr 0), .inl a] I J Q := by
  obtain ⟨d, rfl⟩ : ∃ e, d = e + 1 := ⟨d - 1, by omega⟩
  refine (show ∃ fu9, mv_wp (mv_wpM mv_tab mv_sh d) mv_sh none tbX7_sea flX7 csX7 1 (fun _ _ _ _ _ => False) Q fu9 0 [some (.inr (.inr 0)), some (.inl a)] [] I J from ?_)
  refine ⟨60, ?_⟩
  obtain ⟨f1, f2, f3, f4, f5, f6, f7, f8, f9, f10, f11, f12, f13, f14⟩ := fr
  refine c_isDay (by omega) a (fun p => ?_) (fun p => ?_)
  · first | refine And.intro (fun z => absurd z (by decide)) (fun _ => ?_) | refine And.intro (fun _ => ?_) (fun z => absurd z (by decide))
    exact c_takenOn (by omega) a f10 (mi_60 p) (h _ _ mv_md.rf (if_pos p).symm)
  · first | refine And.intro (fun z => absurd z (by decide)) (fun _ => ?_) | refine And.intro (fun _ => ?_) (fun z => absurd z (by decide))
    exact h _ _ mv_md.rf (if_neg p).symm

set_option maxHeartbeats 1000000 in
theorem g_sea {d : Nat} (hd : 4 ≤ d) (a : Int32) {I : mv_I} {J : mv_J} {Q : mv_Q} (fm : mv_fm I) (h : ∀ (r : Int32) (I' : mv_I) (J' : mv_J), r = v_sea a → Q (some (.inl r)) I' J') : mv_wpM mv_tab mv_sh d 112 [.inr (.inr 12), .inl a] I J Q := by
  obtain ⟨d, rfl⟩ : ∃ e, d = e + 1 := ⟨d - 1, by omega⟩
  refine (show ∃ fu9, mv_wp (mv_wpM mv_tab mv_sh d) mv_sh none tbX8_sea flX8 csX8 1 (fun _ _ _ _ _ => False) Q fu9 0 [some (.inr (.inr 12)), some (.inl a)] [] I J from ?_)
  refine ⟨60, ?_⟩
  obtain ⟨f1, f2, f3, f4, f5, f6, f7, f8, f9, f10, f11⟩ := fm
  refine c_in (by omega) a 0 59 (fun p => ?_) (fun p => ?_)
  · first | refine And.intro (fun z => absurd z (by decide)) (fun _ => ?_) | refine And.intro (fun _ => ?_) (fun z => absurd z (by decide))
    exact c_taken (by omega) a f10 (mi_60 p) (h _ _ _ (if_pos p).symm)
  · first | refine And.intro (fun z => absurd z (by decide)) (fun _ => ?_) | refine And.intro (fun _ => ?_) (fun z => absurd z (by decide))
    exact h _ _ _ (if_neg p).symm

