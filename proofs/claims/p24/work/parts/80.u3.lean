def ptC (I : mv_I) (r : Int32) (I' : mv_I) : Prop := I' 2 2 = 0 ∧ r = rs (rp (I 24) (I 2 2).toNatClampNeg (I 1 2).toNatClampNeg 8 0 0 []) ∧ I' 13 = (if (rp (I 24) (I 2 2).toNatClampNeg (I 1 2).toNatClampNeg 8 0 0 []).1 = true then tkp (I 1 2).toNatClampNeg (ap_u (fun j => if 0 ≤ j ∧ j < 8 then 0 else I 23 j) (rp (I 24) (I 2 2).toNatClampNeg (I 1 2).toNatClampNeg 8 0 0 []).2.2) (I 13) else I 13)
def ptM (I : mv_I) (r : Int32) (I' : mv_I) : Prop := I' 12 20 = 0 ∧ r = rs (rp (I 65) (I 12 20).toNatClampNeg (I 12 0).toNatClampNeg 8 0 0 []) ∧ I' 51 = (if (rp (I 65) (I 12 20).toNatClampNeg (I 12 0).toNatClampNeg 8 0 0 []).1 = true then (fun z => if z < (I 12 0).toNatClampNeg then ap_u (fun z => if z < (I 12 0).toNatClampNeg then I 51 z else I 66 z) (rp (I 65) (I 12 20).toNatClampNeg (I 12 0).toNatClampNeg 8 0 0 []).2.2 z else I 51 z) else I 51)
set_option maxHeartbeats 1000000 in
theorem H_quota {d : Nat} (hd : 6 ≤ d) (a b c : Int32) {I : mv_I} {J : mv_J} {Q : mv_Q} (sc : SC I) (cq : CQm I) (h : ∀ (r : Int32) (I' : mv_I), SC I' → mg_f2 [20, 21, 22] [] I I' → qoR (okq a b c (I 1 2) (I 1 9)) (QC I b a c.toNatClampNeg) r → Q (some (.inl r)) I' J) : mv_wpM mv_tab mv_sh d 58 [.inr (.inr 0), .inl a, .inl b, .inl c] I J Q := by
  refine mv_wpM_2 d 58 _ I J (fun q I' J' => ∃ r : Int32, q = some (.inl r) ∧ SC I' ∧ mg_f2 [20, 21, 22] [] I I' ∧ True ∧ J' = J) (fun q I' J' => ∃ r : Int32, q = some (.inl r) ∧ qoR (okq a b c (I 1 2) (I 1 9)) (QC I b a c.toNatClampNeg) r) Q (fun q I' J' h1 h2 => ?_) (F_quota hd a b c sc (fun r I' s f => ⟨r, rfl, s, f, trivial, rfl⟩)) (E_quota hd a b c sc cq (fun r I' y => ⟨r, rfl, y⟩))
  obtain ⟨r, e, s, f, x, j⟩ := h1
  obtain ⟨r', e', y⟩ := h2
  rw [e] at e'
  cases e'
  subst e
  subst j
  exact h r I' s f y
set_option maxHeartbeats 1000000 in
theorem K_quota {d : Nat} (hd : 4 ≤ d) (a b c : Int32) {I : mv_I} {J : mv_J} {Q : mv_Q} (sm : SM I) (mq : MQm I) (h : ∀ (r : Int32) (I' : mv_I) (J' : mv_J), SM I' → mg_f2 [64] [] I I' → qoR (okq a b c (I 12 0) (I 12 11)) (QM I b a c.toNatClampNeg) r → Q (some (.inl r)) I' J') : mv_wpM mv_tab mv_sh d 97 [.inr (.inr 12), .inl a, .inl b, .inl c] I J Q := by
  refine mv_wpM_2 d 97 _ I J (fun q I' J' => ∃ r : Int32, q = some (.inl r) ∧ SM I' ∧ mg_f2 [64] [] I I' ∧ True) (fun q I' J' => ∃ r : Int32, q = some (.inl r) ∧ qoR (okq a b c (I 12 0) (I 12 11)) (QM I b a c.toNatClampNeg) r) Q (fun q I' J' h1 h2 => ?_) (G_quota hd a b c sm (fun r I' J' s f => ⟨r, rfl, s, f, trivial⟩)) (E2_quota hd a b c sm mq (fun r I' J' y => ⟨r, rfl, y⟩))
  obtain ⟨r, e, s, f, x⟩ := h1
  obtain ⟨r', e', y⟩ := h2
  rw [e] at e'
  cases e'
  subst e
  exact h r I' J' s f y
set_option maxHeartbeats 1000000 in
theorem H_left {d : Nat} (hd : 7 ≤ d) (a : Int32) {I : mv_I} {J : mv_J} {Q : mv_Q} (sc : SC I) (cq : CQm I) (h : ∀ (r : Int32) (I' : mv_I), SC I' → mg_f2 [20, 21, 22] [] I I' → lfR (0 ≤ a ∧ a < I 1 2) (QC I (I 0 7) a (I 1 9).toNatClampNeg) (I 14 a.toNatClampNeg).toInt r → Q (some (.inl r)) I' J) : mv_wpM mv_tab mv_sh d 59 [.inr (.inr 0), .inl a] I J Q := by
  refine mv_wpM_2 d 59 _ I J (fun q I' J' => ∃ r : Int32, q = some (.inl r) ∧ SC I' ∧ mg_f2 [20, 21, 22] [] I I' ∧ True ∧ J' = J) (fun q I' J' => ∃ r : Int32, q = some (.inl r) ∧ lfR (0 ≤ a ∧ a < I 1 2) (QC I (I 0 7) a (I 1 9).toNatClampNeg) (I 14 a.toNatClampNeg).toInt r) Q (fun q I' J' h1 h2 => ?_) (F_left hd a sc (fun r I' s f => ⟨r, rfl, s, f, trivial, rfl⟩)) (E_left hd a sc cq (fun r I' y => ⟨r, rfl, y⟩))
  obtain ⟨r, e, s, f, x, j⟩ := h1
  obtain ⟨r', e', y⟩ := h2
  rw [e] at e'
  cases e'
  subst e
  subst j
  exact h r I' s f y
set_option maxHeartbeats 1000000 in
theorem K_left {d : Nat} (hd : 4 ≤ d) (a : Int32) {I : mv_I} {J : mv_J} {Q : mv_Q} (sm : SM I) (mq : MQm I) (h : ∀ (r : Int32) (I' : mv_I) (J' : mv_J), SM I' → mg_f2 [64] [] I I' → lfR (0 ≤ a ∧ a < I 12 0) (QM I (I 12 3) a (I 12 11).toNatClampNeg) (I 52 a.toNatClampNeg).toInt r → Q (some (.inl r)) I' J') : mv_wpM mv_tab mv_sh d 99 [.inr (.inr 12), .inl a] I J Q := by
  refine mv_wpM_2 d 99 _ I J (fun q I' J' => ∃ r : Int32, q = some (.inl r) ∧ SM I' ∧ mg_f2 [64] [] I I' ∧ True) (fun q I' J' => ∃ r : Int32, q = some (.inl r) ∧ lfR (0 ≤ a ∧ a < I 12 0) (QM I (I 12 3) a (I 12 11).toNatClampNeg) (I 52 a.toNatClampNeg).toInt r) Q (fun q I' J' h1 h2 => ?_) (G_left hd a sm (fun r I' J' s f => ⟨r, rfl, s, f, trivial⟩)) (E2_left hd a sm mq (fun r I' J' y => ⟨r, rfl, y⟩))
  obtain ⟨r, e, s, f, x⟩ := h1
  obtain ⟨r', e', y⟩ := h2
  rw [e] at e'
  cases e'
  subst e
  exact h r I' J' s f y
set_option maxHeartbeats 1000000 in
theorem H_lend {d : Nat} (hd : 7 ≤ d) (a b c : Int32) {I : mv_I} {J : mv_J} {Q : mv_Q} (sc : SC I) (cq : CQm I) (h : ∀ (r : Int32) (I' : mv_I), SC I' → mg_f2 [15, 16, 17, 18, 19, 20, 21, 22] [(1, 9)] I I' → lnR (okl a b c (I 1 2)) (QC I (I 0 7) a (I 1 9).toNatClampNeg) (I 14 a.toNatClampNeg).toInt c.toInt (enS I I') (en I r I' 0 a b c (I 0 7)) r → Q (some (.inl r)) I' J) : mv_wpM mv_tab mv_sh d 53 [.inr (.inr 0), .inl a, .inl b, .inl c] I J Q := by
  refine mv_wpM_2 d 53 _ I J (fun q I' J' => ∃ r : Int32, q = some (.inl r) ∧ SC I' ∧ mg_f2 [15, 16, 17, 18, 19, 20, 21, 22] [(1, 9)] I I' ∧ True ∧ J' = J) (fun q I' J' => ∃ r : Int32, q = some (.inl r) ∧ lnR (okl a b c (I 1 2)) (QC I (I 0 7) a (I 1 9).toNatClampNeg) (I 14 a.toNatClampNeg).toInt c.toInt (enS I I') (en I r I' 0 a b c (I 0 7)) r) Q (fun q I' J' h1 h2 => ?_) (F_lend hd a b c sc (fun r I' s f => ⟨r, rfl, s, f, trivial, rfl⟩)) (E_lend hd a b c sc cq (fun r I' y => ⟨r, rfl, y⟩))
  obtain ⟨r, e, s, f, x, j⟩ := h1
  obtain ⟨r', e', y⟩ := h2
  rw [e] at e'
  cases e'
  subst e
  subst j
  exact h r I' s f y
set_option maxHeartbeats 1000000 in
theorem K_lend {d : Nat} (hd : 4 ≤ d) (a b c : Int32) {I : mv_I} {J : mv_J} {Q : mv_Q} (sm : SM I) (mq : MQm I) (h : ∀ (r : Int32) (I' : mv_I) (J' : mv_J), SM I' → mg_f2 [58, 59, 60, 61, 62, 64] [(12, 11)] I I' → lnR (okl a b c (I 12 0)) (QM I (I 12 3) a (I 12 11).toNatClampNeg) (I 52 a.toNatClampNeg).toInt c.toInt (en2S I I') (en2 I r I' 0 a b c (I 12 3)) r → Q (some (.inl r)) I' J') : mv_wpM mv_tab mv_sh d 93 [.inr (.inr 12), .inl a, .inl b, .inl c] I J Q := by
  refine mv_wpM_2 d 93 _ I J (fun q I' J' => ∃ r : Int32, q = some (.inl r) ∧ SM I' ∧ mg_f2 [58, 59, 60, 61, 62, 64] [(12, 11)] I I' ∧ True) (fun q I' J' => ∃ r : Int32, q = some (.inl r) ∧ lnR (okl a b c (I 12 0)) (QM I (I 12 3) a (I 12 11).toNatClampNeg) (I 52 a.toNatClampNeg).toInt c.toInt (en2S I I') (en2 I r I' 0 a b c (I 12 3)) r) Q (fun q I' J' h1 h2 => ?_) (G_lend hd a b c sm (fun r I' J' s f => ⟨r, rfl, s, f, trivial⟩)) (E2_lend hd a b c sm mq (fun r I' J' y => ⟨r, rfl, y⟩))
  obtain ⟨r, e, s, f, x⟩ := h1
  obtain ⟨r', e', y⟩ := h2
  rw [e] at e'
  cases e'
  subst e
  exact h r I' J' s f y
set_option maxHeartbeats 1000000 in
theorem H_shut {d : Nat} (hd : 4 ≤ d) (a b c : Int32) {I : mv_I} {J : mv_J} {Q : mv_Q} (sc : SC I)  (h : ∀ (r : Int32) (I' : mv_I), SC I' → mg_f2 [15, 16, 17, 18, 19] [(1, 9)] I I' → ((¬ oks a c (I 1 2) ∧ r = -1 ∧ enS I I') ∨ (oks a c (I 1 2) ∧ en I r I' (knd b) a a 0 c)) → Q (some (.inl r)) I' J) : mv_wpM mv_tab mv_sh d 55 [.inr (.inr 0), .inl a, .inl b, .inl c] I J Q := by
  refine mv_wpM_2 d 55 _ I J (fun q I' J' => ∃ r : Int32, q = some (.inl r) ∧ SC I' ∧ mg_f2 [15, 16, 17, 18, 19] [(1, 9)] I I' ∧ True ∧ J' = J) (fun q I' J' => ∃ r : Int32, q = some (.inl r) ∧ ((¬ oks a c (I 1 2) ∧ r = -1 ∧ enS I I') ∨ (oks a c (I 1 2) ∧ en I r I' (knd b) a a 0 c))) Q (fun q I' J' h1 h2 => ?_) (F_shut hd a b c sc (fun r I' s f => ⟨r, rfl, s, f, trivial, rfl⟩)) (E_shut hd a b c sc (fun r I' y => ⟨r, rfl, y⟩))
  obtain ⟨r, e, s, f, x, j⟩ := h1
  obtain ⟨r', e', y⟩ := h2
  rw [e] at e'
  cases e'
  subst e
  subst j
  exact h r I' s f y
set_option maxHeartbeats 1000000 in
theorem K_shut {d : Nat} (hd : 4 ≤ d) (a b c : Int32) {I : mv_I} {J : mv_J} {Q : mv_Q} (sm : SM I)  (h : ∀ (r : Int32) (I' : mv_I) (J' : mv_J), SM I' → mg_f2 [58, 59, 60, 61, 62] [(12, 11)] I I' → ((¬ oks a c (I 12 0) ∧ r = -1 ∧ en2S I I') ∨ (oks a c (I 12 0) ∧ en2 I r I' (knd b) a 0 0 c)) → Q (some (.inl r)) I' J') : mv_wpM mv_tab mv_sh d 94 [.inr (.inr 12), .inl a, .inl b, .inl c] I J Q := by
  refine mv_wpM_2 d 94 _ I J (fun q I' J' => ∃ r : Int32, q = some (.inl r) ∧ SM I' ∧ mg_f2 [58, 59, 60, 61, 62] [(12, 11)] I I' ∧ True) (fun q I' J' => ∃ r : Int32, q = some (.inl r) ∧ ((¬ oks a c (I 12 0) ∧ r = -1 ∧ en2S I I') ∨ (oks a c (I 12 0) ∧ en2 I r I' (knd b) a 0 0 c))) Q (fun q I' J' h1 h2 => ?_) (G_shut hd a b c sm (fun r I' J' s f => ⟨r, rfl, s, f, trivial⟩)) (E2_shut hd a b c sm (fun r I' y => ⟨r, rfl, y⟩))
  obtain ⟨r, e, s, f, x⟩ := h1
  obtain ⟨r', e', y⟩ := h2
  rw [e] at e'
  cases e'
  subst e
  exact h r I' J' s f y
set_option maxHeartbeats 1000000 in
theorem H_load {d : Nat} (hd : 7 ≤ d) (a b c : Int32) {I : mv_I} {J : mv_J} {Q : mv_Q} (sc : SC I) (cq : CQm I) (hlw : ∀ l : Nat, (l : Int) < (I 3 6).toInt → (I 25 l).toInt < (I 1 2).toInt) (h : ∀ (r : Int32) (I' : mv_I), SC I' → mg_f2 [14, 20, 21, 22, 29, 30, 36, 37] [] I I' → ldR (okd a b c (I 4 7) (I 3 6)) c (I 29 b.toNatClampNeg) (I 32 a.toNatClampNeg - I 36 a.toNatClampNeg) (QC I (I 0 7) (I 25 b.toNatClampNeg) (I 1 9).toNatClampNeg) (I 14 (I 25 b.toNatClampNeg).toNatClampNeg).toInt (ldS I I') (ldD I I' a b c r) r → Q (some (.inl r)) I' J) : mv_wpM mv_tab mv_sh d 64 [.inr (.inr 0), .inl a, .inl b, .inl c] I J Q := by
  refine mv_wpM_2 d 64 _ I J (fun q I' J' => ∃ r : Int32, q = some (.inl r) ∧ SC I' ∧ mg_f2 [14, 20, 21, 22, 29, 30, 36, 37] [] I I' ∧ True ∧ J' = J) (fun q I' J' => ∃ r : Int32, q = some (.inl r) ∧ ldR (okd a b c (I 4 7) (I 3 6)) c (I 29 b.toNatClampNeg) (I 32 a.toNatClampNeg - I 36 a.toNatClampNeg) (QC I (I 0 7) (I 25 b.toNatClampNeg) (I 1 9).toNatClampNeg) (I 14 (I 25 b.toNatClampNeg).toNatClampNeg).toInt (ldS I I') (ldD I I' a b c r) r) Q (fun q I' J' h1 h2 => ?_) (F_load hd a b c sc (fun r I' s f => ⟨r, rfl, s, f, trivial, rfl⟩)) (E_load hd a b c sc cq hlw (fun r I' y => ⟨r, rfl, y⟩))
  obtain ⟨r, e, s, f, x, j⟩ := h1
  obtain ⟨r', e', y⟩ := h2
  rw [e] at e'
  cases e'
  subst e
  subst j
  exact h r I' s f y
set_option maxHeartbeats 1000000 in
theorem K_load {d : Nat} (hd : 5 ≤ d) (a b c : Int32) {I : mv_I} {J : mv_J} {Q : mv_Q} (sm : SM I) (mq : MQm I) (hlw : ∀ l : Nat, (l : Int) < (I 12 4).toInt → (I 53 l).toInt < (I 12 0).toInt) (h : ∀ (r : Int32) (I' : mv_I) (J' : mv_J), SM I' → mg_f2 [52, 56, 64, 72] [] I I' → ldR (okd a b c (I 12 24) (I 12 4)) c (I 56 b.toNatClampNeg) (I 68 a.toNatClampNeg - hl (I 72) a.toNatClampNeg (I 12 4).toNatClampNeg) (QM I (I 12 3) (I 53 b.toNatClampNeg) (I 12 11).toNatClampNeg) (I 52 (I 53 b.toNatClampNeg).toNatClampNeg).toInt (ldS2 I I') (ldD2 I I' a b c r) r → Q (some (.inl r)) I' J') : mv_wpM mv_tab mv_sh d 108 [.inr (.inr 12), .inl a, .inl b, .inl c] I J Q := by
  refine mv_wpM_2 d 108 _ I J (fun q I' J' => ∃ r : Int32, q = some (.inl r) ∧ SM I' ∧ mg_f2 [52, 56, 64, 72] [] I I' ∧ True) (fun q I' J' => ∃ r : Int32, q = some (.inl r) ∧ ldR (okd a b c (I 12 24) (I 12 4)) c (I 56 b.toNatClampNeg) (I 68 a.toNatClampNeg - hl (I 72) a.toNatClampNeg (I 12 4).toNatClampNeg) (QM I (I 12 3) (I 53 b.toNatClampNeg) (I 12 11).toNatClampNeg) (I 52 (I 53 b.toNatClampNeg).toNatClampNeg).toInt (ldS2 I I') (ldD2 I I' a b c r) r) Q (fun q I' J' h1 h2 => ?_) (G_load hd a b c sm (fun r I' J' s f => ⟨r, rfl, s, f, trivial⟩)) (E2_load hd a b c sm mq hlw (fun r I' J' y => ⟨r, rfl, y⟩))
  obtain ⟨r, e, s, f, x⟩ := h1
  obtain ⟨r', e', y⟩ := h2
  rw [e] at e'
  cases e'
  subst e
  exact h r I' J' s f y
set_option maxHeartbeats 1000000 in
theorem H_type {d : Nat} (hd : 4 ≤ d) (n : Int32) (w : Int64) {I : mv_I} {J : mv_J} {Q : mv_Q} (sc : SC I)  (h : ∀ (r : Int32) (I' : mv_I), SC I' → mg_f2 [24] [(2, 2)] I I' → (sp_type w n I r I' ∧ (vt_ok w n → (I 2 2).toInt + n.toInt ≤ 70 → I' 24 = apd (I 24) (I 2 2).toNatClampNeg w n.toNatClampNeg)) → Q (some (.inl r)) I' J) : mv_wpM mv_tab mv_sh d 60 [.inr (.inr 0), .inr (.inl w), .inl n] I J Q := by
  refine mv_wpM_2 d 60 _ I J (fun q I' J' => ∃ r : Int32, q = some (.inl r) ∧ SC I' ∧ mg_f2 [24] [(2, 2)] I I' ∧ sp_type w n I r I' ∧ J' = J) (fun q I' J' => ∃ r : Int32, q = some (.inl r) ∧ (vt_ok w n → (I 2 2).toInt + n.toInt ≤ 70 → I' 24 = apd (I 24) (I 2 2).toNatClampNeg w n.toNatClampNeg)) Q (fun q I' J' h1 h2 => ?_) (F_type hd n w sc (fun r I' s f x => ⟨r, rfl, s, f, x, rfl⟩)) (E_type hd n w sc.2.2.2.1 (fun r I' y => ⟨r, rfl, y⟩))
  obtain ⟨r, e, s, f, x, j⟩ := h1
  obtain ⟨r', e', y⟩ := h2
  rw [e] at e'
  cases e'
  subst e
  subst j
  exact h r I' s f ⟨x, y⟩
set_option maxHeartbeats 1000000 in
theorem K_type {d : Nat} (hd : 4 ≤ d) (n : Int32) (w : Int64) {I : mv_I} {J : mv_J} {Q : mv_Q} (sm : SM I)  (h : ∀ (r : Int32) (I' : mv_I) (J' : mv_J), SM I' → mg_f2 [65] [(12, 20)] I I' → (sm_type w n I r I' ∧ (vt_ok w n → (I 12 20).toInt + n.toInt ≤ 70 → I' 65 = apd (I 65) (I 12 20).toNatClampNeg w n.toNatClampNeg)) → Q (some (.inl r)) I' J') : mv_wpM mv_tab mv_sh d 100 [.inr (.inr 12), .inr (.inl w), .inl n] I J Q := by
  refine mv_wpM_2 d 100 _ I J (fun q I' J' => ∃ r : Int32, q = some (.inl r) ∧ SM I' ∧ mg_f2 [65] [(12, 20)] I I' ∧ sm_type w n I r I') (fun q I' J' => ∃ r : Int32, q = some (.inl r) ∧ (vt_ok w n → (I 12 20).toInt + n.toInt ≤ 70 → I' 65 = apd (I 65) (I 12 20).toNatClampNeg w n.toNatClampNeg)) Q (fun q I' J' h1 h2 => ?_) (G_type hd n w sm (fun r I' J' s f x => ⟨r, rfl, s, f, x⟩)) (E2_type hd n w sm.2.2.2.1 (fun r I' y => ⟨r, rfl, y⟩))
  obtain ⟨r, e, s, f, x⟩ := h1
  obtain ⟨r', e', y⟩ := h2
  rw [e] at e'
  cases e'
  subst e
  exact h r I' J' s f ⟨x, y⟩
set_option maxHeartbeats 1000000 in
theorem H_parts {d : Nat} (hd : 5 ≤ d)  {I : mv_I} {J : mv_J} {Q : mv_Q} (sc : SC I)  (h : ∀ (r : Int32) (I' : mv_I), SC I' → mg_f2 [13, 23] [(2, 2), (2, 3)] I I' → ptC I r I' → Q (some (.inl r)) I' J) : mv_wpM mv_tab mv_sh d 61 [.inr (.inr 0)] I J Q := by
  refine mv_wpM_2 d 61 _ I J (fun q I' J' => ∃ r : Int32, q = some (.inl r) ∧ SC I' ∧ mg_f2 [13, 23] [(2, 2), (2, 3)] I I' ∧ I' 2 2 = 0 ∧ J' = J) (fun q I' J' => ∃ r : Int32, q = some (.inl r) ∧ r = rs (rp (I 24) (I 2 2).toNatClampNeg (I 1 2).toNatClampNeg 8 0 0 []) ∧ I' 13 = (if (rp (I 24) (I 2 2).toNatClampNeg (I 1 2).toNatClampNeg 8 0 0 []).1 = true then tkp (I 1 2).toNatClampNeg (ap_u (fun j => if 0 ≤ j ∧ j < 8 then 0 else I 23 j) (rp (I 24) (I 2 2).toNatClampNeg (I 1 2).toNatClampNeg 8 0 0 []).2.2) (I 13) else I 13)) Q (fun q I' J' h1 h2 => ?_) (F_parts hd sc (fun r I' s f x => ⟨r, rfl, s, f, x, rfl⟩)) (E_parts hd (le8 sc.2.1 (by omega)) (mi_nI sc.2.1.1).symm (le8 sc.2.2.2.1 (by omega)) (mi_nI sc.2.2.2.1.1).symm (fun r I' y1 y2 => ⟨r, rfl, y1, y2⟩))
  obtain ⟨r, e, s, f, x, j⟩ := h1
  obtain ⟨r', e', y⟩ := h2
  rw [e] at e'
  cases e'
  subst e
  subst j
  exact h r I' s f ⟨x, y⟩
set_option maxHeartbeats 1000000 in
theorem K_parts {d : Nat} (hd : 5 ≤ d)  {I : mv_I} {J : mv_J} {Q : mv_Q} (sm : SM I) (hb : ∀ j, j < (I 12 20).toNatClampNeg → ¬ I 65 j = 0) (h : ∀ (r : Int32) (I' : mv_I) (J' : mv_J), SM I' → mg_f2 [51, 66] [(12, 20), (12, 21), (12, 22)] I I' → ptM I r I' → Q (some (.inl r)) I' J') : mv_wpM mv_tab mv_sh d 104 [.inr (.inr 12)] I J Q := by
  refine mv_wpM_2 d 104 _ I J (fun q I' J' => ∃ r : Int32, q = some (.inl r) ∧ SM I' ∧ mg_f2 [51, 66] [(12, 20), (12, 21), (12, 22)] I I' ∧ I' 12 20 = 0) (fun q I' J' => ∃ r : Int32, q = some (.inl r) ∧ r = rs (rp (I 65) (I 12 20).toNatClampNeg (I 12 0).toNatClampNeg 8 0 0 []) ∧ I' 51 = (if (rp (I 65) (I 12 20).toNatClampNeg (I 12 0).toNatClampNeg 8 0 0 []).1 = true then (fun z => if z < (I 12 0).toNatClampNeg then ap_u (fun z => if z < (I 12 0).toNatClampNeg then I 51 z else I 66 z) (rp (I 65) (I 12 20).toNatClampNeg (I 12 0).toNatClampNeg 8 0 0 []).2.2 z else I 51 z) else I 51)) Q (fun q I' J' h1 h2 => ?_) (G_parts hd sm (fun r I' J' s f x => ⟨r, rfl, s, f, x⟩)) (E2_parts hd (le8 sm.2.1 (by omega)) (mi_nI sm.2.1.1).symm (le8 sm.2.2.2.1 (by omega)) (mi_nI sm.2.2.2.1.1).symm hb (fun r I' y1 y2 => ⟨r, rfl, y1, y2⟩))
  obtain ⟨r, e, s, f, x⟩ := h1
  obtain ⟨r', e', y⟩ := h2
  rw [e] at e'
  cases e'
  subst e
  exact h r I' J' s f ⟨x, y⟩
def rb_y (I : mv_I) : Prop := I 24 = I 65 ∧ ∀ j : Nat, j < (I 2 2).toNatClampNeg → 32 ≤ (I 24 j).toInt ∧ (I 24 j).toInt ≤ 126
theorem rb_y.kp {I I' : mv_I} (h : rb_y I) (e2_2 : I' 2 2 = I 2 2) (c24 : I' 24 = I 24) (c65 : I' 65 = I 65) : rb_y I' := by
  unfold rb_y at *
  rw [e2_2, c24, c65]
  exact h
def rb_p (I : mv_I) : Prop := I 13 = I 51
theorem rb_p.kp {I I' : mv_I} (h : rb_p I)  (c13 : I' 13 = I 13) (c51 : I' 51 = I 51) : rb_p I' := by
  unfold rb_p at *
  rw [c13, c51]
  exact h
def rb_e (I : mv_I) : Prop := I 1 9 = I 12 11 ∧ I 15 = I 58 ∧ I 16 = I 59 ∧ I 18 = I 61 ∧ I 19 = I 62 ∧ (∀ j, I 15 j = 0 → I 17 j = I 60 j) ∧ (∀ j, rg (I 18 j) 0 100000) ∧ (∀ j, 0 ≤ (I 19 j).toInt)
theorem rb_e.kp {I I' : mv_I} (h : rb_e I) (e1_9 : I' 1 9 = I 1 9) (e12_11 : I' 12 11 = I 12 11) (c15 : I' 15 = I 15) (c16 : I' 16 = I 16) (c17 : I' 17 = I 17) (c18 : I' 18 = I 18) (c19 : I' 19 = I 19) (c58 : I' 58 = I 58) (c59 : I' 59 = I 59) (c60 : I' 60 = I 60) (c61 : I' 61 = I 61) (c62 : I' 62 = I 62) : rb_e I' := by
  unfold rb_e at *
  rw [e1_9, e12_11, c15, c16, c17, c18, c19, c58, c59, c60, c61, c62]
  exact h
def rb_x (I : mv_I) : Prop := I 14 = I 52 ∧ ∀ j, rg (I 14 j) 0 30000000
theorem rb_x.kp {I I' : mv_I} (h : rb_x I)  (c14 : I' 14 = I 14) (c52 : I' 52 = I 52) : rb_x I' := by
  unfold rb_x at *
  rw [c14, c52]
  exact h
def rb_o (I : mv_I) : Prop := I 29 = I 56 ∧ ∀ l : Nat, (l : Int) < (I 3 6).toInt → (I 25 l).toInt < (I 1 2).toInt
theorem rb_o.kp {I I' : mv_I} (h : rb_o I) (e3_6 : I' 3 6 = I 3 6) (e1_2 : I' 1 2 = I 1 2) (c29 : I' 29 = I 29) (c56 : I' 56 = I 56) (c25 : I' 25 = I 25) : rb_o I' := by
  unfold rb_o at *
  rw [e3_6, e1_2, c29, c56, c25]
  exact h
def rb_d (I : mv_I) : Prop := I 37 = I 72 ∧ (∀ l, l < 60 → I 30 l = hh (I 72) l 6) ∧ (∀ s, s < 6 → I 36 s = hl (I 72) s 60) ∧ (∀ s l : Nat, s < 6 → l < 60 → (I 3 6).toInt ≤ (l : Int) → I 72 (60 * s + l) = 0) ∧ (∀ s, rg (I 36 s) 0 20000)
theorem rb_d.kp {I I' : mv_I} (h : rb_d I) (e3_6 : I' 3 6 = I 3 6) (c30 : I' 30 = I 30) (c36 : I' 36 = I 36) (c37 : I' 37 = I 37) (c72 : I' 72 = I 72) : rb_d I' := by
  unfold rb_d at *
  rw [e3_6, c30, c36, c37, c72]
  exact h
def LSx (I : mv_I) : Prop := LR I ∧ rb_y I ∧ rb_p I ∧ rb_e I ∧ rb_x I ∧ rb_o I ∧ rb_d I
theorem LSx.cq {I : mv_I} (hS : LSx I) (sm : SM I) : CQm I := by
  obtain ⟨hR, byy, bp, be, bx, bo, bd⟩ := id hS
  obtain ⟨hw, hn, ht, hb, hk, hs, hl_, hh_, hi, hf⟩ := id hR
  obtain ⟨t1, t2, t3, t4, t5, t6, t7, t8, t9, t10⟩ := sm
  have ew : I 1 2 = I 12 0 := hw
  have et : I 1 3 = I 12 10 := ht
  have ep : I 13 = I 51 := bp
  refine ⟨fun z hz => ?_, be.2.2.2.2.2.2.1, by rw [et]; exact t10.2, bx.2⟩
  rw [ep]
  rw [ew] at hz
  have k := mi_cl t2.1
  exact t10.1 z (by omega)
theorem LSx.mq {I : mv_I} (hS : LSx I) : MQm I := by
  obtain ⟨hR, byy, bp, be, bx, bo, bd⟩ := id hS
  obtain ⟨e1, e2, e3, e4, e5, e6, e7, e8⟩ := be
  refine ⟨fun j => ?_, fun j => ?_, fun j => ?_⟩
  · rw [← e4]; exact e7 j
  · rw [← e5]; exact e8 j
  · rw [← bx.1]; exact bx.2 j
theorem MQm.kp {I I' : mv_I} (h : MQm I) (g : ∀ k, (k = 12 ∨ 51 ≤ k) → I' k = I k) : MQm I' := by
  unfold MQm at *
  rw [g 61 (by decide), g 62 (by decide), g 52 (by decide)]
  exact h
theorem QM_kp {I I' : mv_I} {a w : Int32} {N : Nat} {v : Int} (g : ∀ k, (k = 12 ∨ 51 ≤ k) → I' k = I k) (h : QM I' a w N v) : QM I a w N v := by
  unfold QM at *
  rw [g 12 (by decide), g 58 (by decide), g 59 (by decide), g 60 (by decide), g 61 (by decide), g 62 (by decide), g 51 (by decide)] at h
  exact h
theorem qEq {I : mv_I} (hS : LSx I) {a w : Int32} {N : Nat} {v v' : Int} (hwk : 0 ≤ w ∧ w < I 1 2) (h1 : QC I a w N v) (h2 : QM I a w N v') : v = v' := by
  obtain ⟨hR, byy, bp, be, bx, bo, bd⟩ := id hS
  obtain ⟨hw, hn, ht, hb, hk, hs, hl_, hh_, hi, hf⟩ := id hR
  have ew : I 1 2 = I 12 0 := hw
  have et : I 1 3 = I 12 10 := ht
  have ep : I 13 = I 51 := bp
  obtain ⟨e1, e2, e3, e4, e5, e6, e7, e8⟩ := be
  unfold QM at h2
  rw [← e2, ← e3, ← e4, ← e5, ← ep, ← et, ← ew] at h2
  exact quV_u e6 (ltW hwk).2 h1 h2
theorem ks_weeks {a r1 r2 : Int32} {I I1 I2 : mv_I} (sc : SC I) (hS : LSx I) (f1 : mg_f2 [] [(0, 7)] I I1) (f2 : mg_f2 [] [(12, 3)] I1 I2) (p1 : sp_weeks a I r1 I1) (p2 : sm_weeks a I1 r2 I2) : r1 = r2 ∧ LSx I2 := by
  obtain ⟨hR, byy, bp, be, bx, bo, bd⟩ := id hS
  have kr := kr_weeks sc hR f1 f2 p1 p2
  have f := f1.cat f2
  exact ⟨kr.1, kr.2, (byy.kp (f 2 2 rfl rfl) (f2_fn (c := 24) f rfl (fun _ => rfl)) (f2_fn (c := 65) f rfl (fun _ => rfl))), (bp.kp (f2_fn (c := 13) f rfl (fun _ => rfl)) (f2_fn (c := 51) f rfl (fun _ => rfl))), (be.kp (f 1 9 rfl rfl) (f 12 11 rfl rfl) (f2_fn (c := 15) f rfl (fun _ => rfl)) (f2_fn (c := 16) f rfl (fun _ => rfl)) (f2_fn (c := 17) f rfl (fun _ => rfl)) (f2_fn (c := 18) f rfl (fun _ => rfl)) (f2_fn (c := 19) f rfl (fun _ => rfl)) (f2_fn (c := 58) f rfl (fun _ => rfl)) (f2_fn (c := 59) f rfl (fun _ => rfl)) (f2_fn (c := 60) f rfl (fun _ => rfl)) (f2_fn (c := 61) f rfl (fun _ => rfl)) (f2_fn (c := 62) f rfl (fun _ => rfl))), (bx.kp (f2_fn (c := 14) f rfl (fun _ => rfl)) (f2_fn (c := 52) f rfl (fun _ => rfl))), (bo.kp (f 3 6 rfl rfl) (f 1 2 rfl rfl) (f2_fn (c := 29) f rfl (fun _ => rfl)) (f2_fn (c := 56) f rfl (fun _ => rfl)) (f2_fn (c := 25) f rfl (fun _ => rfl))), (bd.kp (f 3 6 rfl rfl) (f2_fn (c := 30) f rfl (fun _ => rfl)) (f2_fn (c := 36) f rfl (fun _ => rfl)) (f2_fn (c := 37) f rfl (fun _ => rfl)) (f2_fn (c := 72) f rfl (fun _ => rfl)))⟩
theorem ks_total {a r1 r2 : Int32} {I I1 I2 : mv_I} (sc : SC I) (hS : LSx I) (f1 : mg_f2 [] [(1, 3)] I I1) (f2 : mg_f2 [] [(12, 10)] I1 I2) (p1 : sp_total a I r1 I1) (p2 : sm_total a I1 r2 I2) : r1 = r2 ∧ LSx I2 := by
  obtain ⟨hR, byy, bp, be, bx, bo, bd⟩ := id hS
  have kr := kr_total sc hR f1 f2 p1 p2
  have f := f1.cat f2
  exact ⟨kr.1, kr.2, (byy.kp (f 2 2 rfl rfl) (f2_fn (c := 24) f rfl (fun _ => rfl)) (f2_fn (c := 65) f rfl (fun _ => rfl))), (bp.kp (f2_fn (c := 13) f rfl (fun _ => rfl)) (f2_fn (c := 51) f rfl (fun _ => rfl))), (be.kp (f 1 9 rfl rfl) (f 12 11 rfl rfl) (f2_fn (c := 15) f rfl (fun _ => rfl)) (f2_fn (c := 16) f rfl (fun _ => rfl)) (f2_fn (c := 17) f rfl (fun _ => rfl)) (f2_fn (c := 18) f rfl (fun _ => rfl)) (f2_fn (c := 19) f rfl (fun _ => rfl)) (f2_fn (c := 58) f rfl (fun _ => rfl)) (f2_fn (c := 59) f rfl (fun _ => rfl)) (f2_fn (c := 60) f rfl (fun _ => rfl)) (f2_fn (c := 61) f rfl (fun _ => rfl)) (f2_fn (c := 62) f rfl (fun _ => rfl))), (bx.kp (f2_fn (c := 14) f rfl (fun _ => rfl)) (f2_fn (c := 52) f rfl (fun _ => rfl))), (bo.kp (f 3 6 rfl rfl) (f 1 2 rfl rfl) (f2_fn (c := 29) f rfl (fun _ => rfl)) (f2_fn (c := 56) f rfl (fun _ => rfl)) (f2_fn (c := 25) f rfl (fun _ => rfl))), (bd.kp (f 3 6 rfl rfl) (f2_fn (c := 30) f rfl (fun _ => rfl)) (f2_fn (c := 36) f rfl (fun _ => rfl)) (f2_fn (c := 37) f rfl (fun _ => rfl)) (f2_fn (c := 72) f rfl (fun _ => rfl)))⟩
theorem ks_bar {a r1 r2 : Int32} {I I1 I2 : mv_I} (sc : SC I) (hS : LSx I) (f1 : mg_f2 [] [(5, 1)] I I1) (f2 : mg_f2 [] [(12, 32)] I1 I2) (p1 : sp_bar a I r1 I1) (p2 : sm_bar a I1 r2 I2) : r1 = r2 ∧ LSx I2 := by
  obtain ⟨hR, byy, bp, be, bx, bo, bd⟩ := id hS
  have kr := kr_bar sc hR f1 f2 p1 p2
  have f := f1.cat f2
  exact ⟨kr.1, kr.2, (byy.kp (f 2 2 rfl rfl) (f2_fn (c := 24) f rfl (fun _ => rfl)) (f2_fn (c := 65) f rfl (fun _ => rfl))), (bp.kp (f2_fn (c := 13) f rfl (fun _ => rfl)) (f2_fn (c := 51) f rfl (fun _ => rfl))), (be.kp (f 1 9 rfl rfl) (f 12 11 rfl rfl) (f2_fn (c := 15) f rfl (fun _ => rfl)) (f2_fn (c := 16) f rfl (fun _ => rfl)) (f2_fn (c := 17) f rfl (fun _ => rfl)) (f2_fn (c := 18) f rfl (fun _ => rfl)) (f2_fn (c := 19) f rfl (fun _ => rfl)) (f2_fn (c := 58) f rfl (fun _ => rfl)) (f2_fn (c := 59) f rfl (fun _ => rfl)) (f2_fn (c := 60) f rfl (fun _ => rfl)) (f2_fn (c := 61) f rfl (fun _ => rfl)) (f2_fn (c := 62) f rfl (fun _ => rfl))), (bx.kp (f2_fn (c := 14) f rfl (fun _ => rfl)) (f2_fn (c := 52) f rfl (fun _ => rfl))), (bo.kp (f 3 6 rfl rfl) (f 1 2 rfl rfl) (f2_fn (c := 29) f rfl (fun _ => rfl)) (f2_fn (c := 56) f rfl (fun _ => rfl)) (f2_fn (c := 25) f rfl (fun _ => rfl))), (bd.kp (f 3 6 rfl rfl) (f2_fn (c := 30) f rfl (fun _ => rfl)) (f2_fn (c := 36) f rfl (fun _ => rfl)) (f2_fn (c := 37) f rfl (fun _ => rfl)) (f2_fn (c := 72) f rfl (fun _ => rfl)))⟩
theorem ks_ship {a b c e f r1 r2 : Int32} {I I1 I2 : mv_I} (sc : SC I) (hS : LSx I) (f1 : mg_f2 [31, 32, 33, 34, 35] [(4, 7)] I I1) (f2 : mg_f2 [67, 68, 69, 70, 71] [(12, 24)] I1 I2) (p1 : sp_ship a b c e f I r1 I1) (p2 : sm_ship a b c e f I1 r2 I2) : r1 = r2 ∧ LSx I2 := by
  obtain ⟨hR, byy, bp, be, bx, bo, bd⟩ := id hS
  have kr := kr_ship sc hR f1 f2 p1 p2
  have f := f1.cat f2
  exact ⟨kr.1, kr.2, (byy.kp (f 2 2 rfl rfl) (f2_fn (c := 24) f rfl (fun _ => rfl)) (f2_fn (c := 65) f rfl (fun _ => rfl))), (bp.kp (f2_fn (c := 13) f rfl (fun _ => rfl)) (f2_fn (c := 51) f rfl (fun _ => rfl))), (be.kp (f 1 9 rfl rfl) (f 12 11 rfl rfl) (f2_fn (c := 15) f rfl (fun _ => rfl)) (f2_fn (c := 16) f rfl (fun _ => rfl)) (f2_fn (c := 17) f rfl (fun _ => rfl)) (f2_fn (c := 18) f rfl (fun _ => rfl)) (f2_fn (c := 19) f rfl (fun _ => rfl)) (f2_fn (c := 58) f rfl (fun _ => rfl)) (f2_fn (c := 59) f rfl (fun _ => rfl)) (f2_fn (c := 60) f rfl (fun _ => rfl)) (f2_fn (c := 61) f rfl (fun _ => rfl)) (f2_fn (c := 62) f rfl (fun _ => rfl))), (bx.kp (f2_fn (c := 14) f rfl (fun _ => rfl)) (f2_fn (c := 52) f rfl (fun _ => rfl))), (bo.kp (f 3 6 rfl rfl) (f 1 2 rfl rfl) (f2_fn (c := 29) f rfl (fun _ => rfl)) (f2_fn (c := 56) f rfl (fun _ => rfl)) (f2_fn (c := 25) f rfl (fun _ => rfl))), (bd.kp (f 3 6 rfl rfl) (f2_fn (c := 30) f rfl (fun _ => rfl)) (f2_fn (c := 36) f rfl (fun _ => rfl)) (f2_fn (c := 37) f rfl (fun _ => rfl)) (f2_fn (c := 72) f rfl (fun _ => rfl)))⟩
theorem ks_sheet {a b c r1 r2 : Int32} {I I1 I2 : mv_I} (sc : SC I) (hS : LSx I) (f1 : mg_f2 [47, 48, 49, 50] [(8, 1), (8, 2), (9, 1), (9, 2), (10, 1), (10, 2), (11, 1), (11, 2)] I I1) (f2 : mg_f2 [82, 83, 84] [] I1 I2) (p1 : sp_sheet a b c I r1 I1) (p2 : sm_sheet a b c I1 r2 I2) : r1 = r2 ∧ LSx I2 := by
  obtain ⟨hR, byy, bp, be, bx, bo, bd⟩ := id hS
  have kr := kr_sheet sc hR f1 f2 p1 p2
  have f := f1.cat f2
  exact ⟨kr.1, kr.2, (byy.kp (f 2 2 rfl rfl) (f2_fn (c := 24) f rfl (fun _ => rfl)) (f2_fn (c := 65) f rfl (fun _ => rfl))), (bp.kp (f2_fn (c := 13) f rfl (fun _ => rfl)) (f2_fn (c := 51) f rfl (fun _ => rfl))), (be.kp (f 1 9 rfl rfl) (f 12 11 rfl rfl) (f2_fn (c := 15) f rfl (fun _ => rfl)) (f2_fn (c := 16) f rfl (fun _ => rfl)) (f2_fn (c := 17) f rfl (fun _ => rfl)) (f2_fn (c := 18) f rfl (fun _ => rfl)) (f2_fn (c := 19) f rfl (fun _ => rfl)) (f2_fn (c := 58) f rfl (fun _ => rfl)) (f2_fn (c := 59) f rfl (fun _ => rfl)) (f2_fn (c := 60) f rfl (fun _ => rfl)) (f2_fn (c := 61) f rfl (fun _ => rfl)) (f2_fn (c := 62) f rfl (fun _ => rfl))), (bx.kp (f2_fn (c := 14) f rfl (fun _ => rfl)) (f2_fn (c := 52) f rfl (fun _ => rfl))), (bo.kp (f 3 6 rfl rfl) (f 1 2 rfl rfl) (f2_fn (c := 29) f rfl (fun _ => rfl)) (f2_fn (c := 56) f rfl (fun _ => rfl)) (f2_fn (c := 25) f rfl (fun _ => rfl))), (bd.kp (f 3 6 rfl rfl) (f2_fn (c := 30) f rfl (fun _ => rfl)) (f2_fn (c := 36) f rfl (fun _ => rfl)) (f2_fn (c := 37) f rfl (fun _ => rfl)) (f2_fn (c := 72) f rfl (fun _ => rfl)))⟩
theorem ks_drop {a r1 r2 : Int32} {I I1 I2 : mv_I} (sc : SC I) (hS : LSx I) (f1 : mg_f2 [] [(8, 1), (9, 1), (10, 1), (11, 1)] I I1) (f2 : mg_f2 [82] [] I1 I2) (p1 : sp_drop a I r1 I1) (p2 : sm_drop a I1 r2 I2) : r1 = r2 ∧ LSx I2 := by
  obtain ⟨hR, byy, bp, be, bx, bo, bd⟩ := id hS
  have kr := kr_drop sc hR f1 f2 p1 p2
  have f := f1.cat f2
  exact ⟨kr.1, kr.2, (byy.kp (f 2 2 rfl rfl) (f2_fn (c := 24) f rfl (fun _ => rfl)) (f2_fn (c := 65) f rfl (fun _ => rfl))), (bp.kp (f2_fn (c := 13) f rfl (fun _ => rfl)) (f2_fn (c := 51) f rfl (fun _ => rfl))), (be.kp (f 1 9 rfl rfl) (f 12 11 rfl rfl) (f2_fn (c := 15) f rfl (fun _ => rfl)) (f2_fn (c := 16) f rfl (fun _ => rfl)) (f2_fn (c := 17) f rfl (fun _ => rfl)) (f2_fn (c := 18) f rfl (fun _ => rfl)) (f2_fn (c := 19) f rfl (fun _ => rfl)) (f2_fn (c := 58) f rfl (fun _ => rfl)) (f2_fn (c := 59) f rfl (fun _ => rfl)) (f2_fn (c := 60) f rfl (fun _ => rfl)) (f2_fn (c := 61) f rfl (fun _ => rfl)) (f2_fn (c := 62) f rfl (fun _ => rfl))), (bx.kp (f2_fn (c := 14) f rfl (fun _ => rfl)) (f2_fn (c := 52) f rfl (fun _ => rfl))), (bo.kp (f 3 6 rfl rfl) (f 1 2 rfl rfl) (f2_fn (c := 29) f rfl (fun _ => rfl)) (f2_fn (c := 56) f rfl (fun _ => rfl)) (f2_fn (c := 25) f rfl (fun _ => rfl))), (bd.kp (f 3 6 rfl rfl) (f2_fn (c := 30) f rfl (fun _ => rfl)) (f2_fn (c := 36) f rfl (fun _ => rfl)) (f2_fn (c := 37) f rfl (fun _ => rfl)) (f2_fn (c := 72) f rfl (fun _ => rfl)))⟩
theorem ks_item {a b i v r1 r2 : Int32} {I I1 I2 : mv_I} (sc : SC I) (hS : LSx I) (f1 : mg_f2 [47, 48, 49, 50] [] I I1) (f2 : mg_f2 [84] [] I1 I2) (p1 : sp_item a b i v I r1 I1) (p2 : sm_item a b i v I1 r2 I2) : r1 = r2 ∧ LSx I2 := by
  obtain ⟨hR, byy, bp, be, bx, bo, bd⟩ := id hS
  have kr := kr_item sc hR f1 f2 p1 p2
  have f := f1.cat f2
  exact ⟨kr.1, kr.2, (byy.kp (f 2 2 rfl rfl) (f2_fn (c := 24) f rfl (fun _ => rfl)) (f2_fn (c := 65) f rfl (fun _ => rfl))), (bp.kp (f2_fn (c := 13) f rfl (fun _ => rfl)) (f2_fn (c := 51) f rfl (fun _ => rfl))), (be.kp (f 1 9 rfl rfl) (f 12 11 rfl rfl) (f2_fn (c := 15) f rfl (fun _ => rfl)) (f2_fn (c := 16) f rfl (fun _ => rfl)) (f2_fn (c := 17) f rfl (fun _ => rfl)) (f2_fn (c := 18) f rfl (fun _ => rfl)) (f2_fn (c := 19) f rfl (fun _ => rfl)) (f2_fn (c := 58) f rfl (fun _ => rfl)) (f2_fn (c := 59) f rfl (fun _ => rfl)) (f2_fn (c := 60) f rfl (fun _ => rfl)) (f2_fn (c := 61) f rfl (fun _ => rfl)) (f2_fn (c := 62) f rfl (fun _ => rfl))), (bx.kp (f2_fn (c := 14) f rfl (fun _ => rfl)) (f2_fn (c := 52) f rfl (fun _ => rfl))), (bo.kp (f 3 6 rfl rfl) (f 1 2 rfl rfl) (f2_fn (c := 29) f rfl (fun _ => rfl)) (f2_fn (c := 56) f rfl (fun _ => rfl)) (f2_fn (c := 25) f rfl (fun _ => rfl))), (bd.kp (f 3 6 rfl rfl) (f2_fn (c := 30) f rfl (fun _ => rfl)) (f2_fn (c := 36) f rfl (fun _ => rfl)) (f2_fn (c := 37) f rfl (fun _ => rfl)) (f2_fn (c := 72) f rfl (fun _ => rfl)))⟩
theorem ks_copy {a i b j n r1 r2 : Int32} {I I1 I2 : mv_I} (sc : SC I) (hS : LSx I) (f1 : mg_f2 [47, 48, 49, 50] [] I I1) (f2 : mg_f2 [84, 85] [] I1 I2) (p1 : sp_copy a i b j n I r1 I1) (p2 : sm_copy a i b j n I1 r2 I2) : r1 = r2 ∧ LSx I2 := by
  obtain ⟨hR, byy, bp, be, bx, bo, bd⟩ := id hS
  have kr := kr_copy sc hR f1 f2 p1 p2
  have f := f1.cat f2
  exact ⟨kr.1, kr.2, (byy.kp (f 2 2 rfl rfl) (f2_fn (c := 24) f rfl (fun _ => rfl)) (f2_fn (c := 65) f rfl (fun _ => rfl))), (bp.kp (f2_fn (c := 13) f rfl (fun _ => rfl)) (f2_fn (c := 51) f rfl (fun _ => rfl))), (be.kp (f 1 9 rfl rfl) (f 12 11 rfl rfl) (f2_fn (c := 15) f rfl (fun _ => rfl)) (f2_fn (c := 16) f rfl (fun _ => rfl)) (f2_fn (c := 17) f rfl (fun _ => rfl)) (f2_fn (c := 18) f rfl (fun _ => rfl)) (f2_fn (c := 19) f rfl (fun _ => rfl)) (f2_fn (c := 58) f rfl (fun _ => rfl)) (f2_fn (c := 59) f rfl (fun _ => rfl)) (f2_fn (c := 60) f rfl (fun _ => rfl)) (f2_fn (c := 61) f rfl (fun _ => rfl)) (f2_fn (c := 62) f rfl (fun _ => rfl))), (bx.kp (f2_fn (c := 14) f rfl (fun _ => rfl)) (f2_fn (c := 52) f rfl (fun _ => rfl))), (bo.kp (f 3 6 rfl rfl) (f 1 2 rfl rfl) (f2_fn (c := 29) f rfl (fun _ => rfl)) (f2_fn (c := 56) f rfl (fun _ => rfl)) (f2_fn (c := 25) f rfl (fun _ => rfl))), (bd.kp (f 3 6 rfl rfl) (f2_fn (c := 30) f rfl (fun _ => rfl)) (f2_fn (c := 36) f rfl (fun _ => rfl)) (f2_fn (c := 37) f rfl (fun _ => rfl)) (f2_fn (c := 72) f rfl (fun _ => rfl)))⟩
theorem ks_surf {a b c i n r1 r2 : Int32} {I I1 I2 : mv_I} (sc : SC I) (hS : LSx I) (f1 : mg_f2 [38] [] I I1) (f2 : mg_f2 [73] [] I1 I2) (p1 : sp_surf a b c i n I r1 I1) (p2 : sm_surf a b c i n I1 r2 I2) : r1 = r2 ∧ LSx I2 := by
  obtain ⟨hR, byy, bp, be, bx, bo, bd⟩ := id hS
  have kr := kr_surf sc hR f1 f2 p1 p2
  have f := f1.cat f2
  exact ⟨kr.1, kr.2, (byy.kp (f 2 2 rfl rfl) (f2_fn (c := 24) f rfl (fun _ => rfl)) (f2_fn (c := 65) f rfl (fun _ => rfl))), (bp.kp (f2_fn (c := 13) f rfl (fun _ => rfl)) (f2_fn (c := 51) f rfl (fun _ => rfl))), (be.kp (f 1 9 rfl rfl) (f 12 11 rfl rfl) (f2_fn (c := 15) f rfl (fun _ => rfl)) (f2_fn (c := 16) f rfl (fun _ => rfl)) (f2_fn (c := 17) f rfl (fun _ => rfl)) (f2_fn (c := 18) f rfl (fun _ => rfl)) (f2_fn (c := 19) f rfl (fun _ => rfl)) (f2_fn (c := 58) f rfl (fun _ => rfl)) (f2_fn (c := 59) f rfl (fun _ => rfl)) (f2_fn (c := 60) f rfl (fun _ => rfl)) (f2_fn (c := 61) f rfl (fun _ => rfl)) (f2_fn (c := 62) f rfl (fun _ => rfl))), (bx.kp (f2_fn (c := 14) f rfl (fun _ => rfl)) (f2_fn (c := 52) f rfl (fun _ => rfl))), (bo.kp (f 3 6 rfl rfl) (f 1 2 rfl rfl) (f2_fn (c := 29) f rfl (fun _ => rfl)) (f2_fn (c := 56) f rfl (fun _ => rfl)) (f2_fn (c := 25) f rfl (fun _ => rfl))), (bd.kp (f 3 6 rfl rfl) (f2_fn (c := 30) f rfl (fun _ => rfl)) (f2_fn (c := 36) f rfl (fun _ => rfl)) (f2_fn (c := 37) f rfl (fun _ => rfl)) (f2_fn (c := 72) f rfl (fun _ => rfl)))⟩
theorem ks_lay {I I1 I2 : mv_I} (hS : LSx I) (f1 : mg_f2 [39, 40, 41, 42, 43, 44, 45, 46] [(5, 4), (5, 5), (6, 4), (6, 7)] I I1) (f2 : mg_f2 [74, 75, 76, 77, 78, 79, 80, 81] [(12, 37)] I1 I2) : LSx I2 := by
  obtain ⟨hR, byy, bp, be, bx, bo, bd⟩ := id hS
  have f := f1.cat f2
  exact ⟨kr_lay hR f1 f2, (byy.kp (f 2 2 rfl rfl) (f2_fn (c := 24) f rfl (fun _ => rfl)) (f2_fn (c := 65) f rfl (fun _ => rfl))), (bp.kp (f2_fn (c := 13) f rfl (fun _ => rfl)) (f2_fn (c := 51) f rfl (fun _ => rfl))), (be.kp (f 1 9 rfl rfl) (f 12 11 rfl rfl) (f2_fn (c := 15) f rfl (fun _ => rfl)) (f2_fn (c := 16) f rfl (fun _ => rfl)) (f2_fn (c := 17) f rfl (fun _ => rfl)) (f2_fn (c := 18) f rfl (fun _ => rfl)) (f2_fn (c := 19) f rfl (fun _ => rfl)) (f2_fn (c := 58) f rfl (fun _ => rfl)) (f2_fn (c := 59) f rfl (fun _ => rfl)) (f2_fn (c := 60) f rfl (fun _ => rfl)) (f2_fn (c := 61) f rfl (fun _ => rfl)) (f2_fn (c := 62) f rfl (fun _ => rfl))), (bx.kp (f2_fn (c := 14) f rfl (fun _ => rfl)) (f2_fn (c := 52) f rfl (fun _ => rfl))), (bo.kp (f 3 6 rfl rfl) (f 1 2 rfl rfl) (f2_fn (c := 29) f rfl (fun _ => rfl)) (f2_fn (c := 56) f rfl (fun _ => rfl)) (f2_fn (c := 25) f rfl (fun _ => rfl))), (bd.kp (f 3 6 rfl rfl) (f2_fn (c := 30) f rfl (fun _ => rfl)) (f2_fn (c := 36) f rfl (fun _ => rfl)) (f2_fn (c := 37) f rfl (fun _ => rfl)) (f2_fn (c := 72) f rfl (fun _ => rfl)))⟩
theorem ks_works {a r1 r2 : Int32} {I I1 I2 : mv_I} (sc : SC I) (hS : LSx I) (f1 : mg_f2 [13] [(1, 2)] I I1) (f2 : mg_f2 [51] [(12, 0)] I1 I2) (p1 : sp_works a I r1 I1) (p2 : sm_works a I1 r2 I2) : r1 = r2 ∧ LSx I2 := by
  obtain ⟨hR, byy, bp, be, bx, bo, bd⟩ := id hS
  obtain ⟨hw, hn, ht, hb, hk, hs, hl_, hh_, hi, hf⟩ := id hR
  have kr := kr_works sc hR f1 f2 p1 p2
  have f := f1.cat f2
  have ew : I 1 2 = I 12 0 := hw
  have ep : I 13 = I 51 := bp
  have c12 : I2 1 2 = I1 1 2 := f2 1 2 rfl rfl
  have c13 : I2 13 = I1 13 := f2_fn (c := 13) f2 rfl (fun _ => rfl)
  have bo' : I1 1 2 = I 1 2 ∨ (I1 1 2).toInt = (I 1 2).toInt + 1 → rb_o I2 := fun z => ⟨(f2_fn (c := 29) f rfl (fun _ => rfl)).trans (bo.1.trans (f2_fn (c := 56) f rfl (fun _ => rfl)).symm), fun l hl => by
    rw [f 3 6 rfl rfl] at hl
    rw [f2_fn (c := 25) f rfl (fun _ => rfl), c12]
    have := bo.2 l hl
    rcases z with z | z
    · rw [z]; exact this
    · omega⟩
  refine ⟨kr.1, kr.2, (byy.kp (f 2 2 rfl rfl) (f2_fn (c := 24) f rfl (fun _ => rfl)) (f2_fn (c := 65) f rfl (fun _ => rfl))), ?_, (be.kp (f 1 9 rfl rfl) (f 12 11 rfl rfl) (f2_fn (c := 15) f rfl (fun _ => rfl)) (f2_fn (c := 16) f rfl (fun _ => rfl)) (f2_fn (c := 17) f rfl (fun _ => rfl)) (f2_fn (c := 18) f rfl (fun _ => rfl)) (f2_fn (c := 19) f rfl (fun _ => rfl)) (f2_fn (c := 58) f rfl (fun _ => rfl)) (f2_fn (c := 59) f rfl (fun _ => rfl)) (f2_fn (c := 60) f rfl (fun _ => rfl)) (f2_fn (c := 61) f rfl (fun _ => rfl)) (f2_fn (c := 62) f rfl (fun _ => rfl))), (bx.kp (f2_fn (c := 14) f rfl (fun _ => rfl)) (f2_fn (c := 52) f rfl (fun _ => rfl))), ?_, (bd.kp (f 3 6 rfl rfl) (f2_fn (c := 30) f rfl (fun _ => rfl)) (f2_fn (c := 36) f rfl (fun _ => rfl)) (f2_fn (c := 37) f rfl (fun _ => rfl)) (f2_fn (c := 72) f rfl (fun _ => rfl)))⟩
  · unfold sp_works at p1
    unfold sm_works at p2
    rw [f1 12 0 rfl rfl, ← ew, f2_fn (c := 51) f1 rfl (fun _ => rfl), ← ep] at p2
    rcases p1 with ⟨n1, e1, i1⟩ | ⟨o1, l1, e1, i1⟩ | ⟨o1, l1, e1, i1⟩
    · rcases p2 with ⟨n2, e2, i2⟩ | ⟨o2, l2, e2, i2⟩ | ⟨o2, l2, e2, i2⟩
      · rw [i2, i1]; exact bp
      · exact absurd o2 n1
      · exact absurd o2 n1
    · rcases p2 with ⟨n2, e2, i2⟩ | ⟨o2, l2, e2, i2⟩ | ⟨o2, l2, e2, i2⟩
      · exact absurd o1 n2
      · rw [i2, i1]; exact bp
      · exfalso; omega
    · rcases p2 with ⟨n2, e2, i2⟩ | ⟨o2, l2, e2, i2⟩ | ⟨o2, l2, e2, i2⟩
      · exact absurd o1 n2
      · exfalso; omega
      · have z1 : I2 13 = upd (I 13) (I 1 2).toNatClampNeg a := c13.trans ((congrFun i1 13).trans rfl)
        have z2 : I2 51 = upd (I 13) (I 1 2).toNatClampNeg a := (congrFun i2 51).trans rfl
        exact z1.trans z2.symm
  · rcases p1 with ⟨n1, e1, i1⟩ | ⟨o1, l1, e1, i1⟩ | ⟨o1, l1, e1, i1⟩
    · exact bo' (Or.inl (by rw [i1]))
    · exact bo' (Or.inl (by rw [i1]))
    · refine bo' (Or.inr ?_)
      have z : I1 1 2 = I 1 2 + 1 := (congrFun (congrFun i1 1) 2).trans rfl
      rw [z]
      exact mi_inc l1 (by omega)
theorem ks_lot {a b c r1 r2 : Int32} {I I1 I2 : mv_I} (sc : SC I) (hS : LSx I) (f1 : mg_f2 [25, 26, 27, 28] [(3, 6)] I I1) (f2 : mg_f2 [53, 54, 55, 57] [(12, 4)] I1 I2) (p1 : sp_lot a b c I r1 I1) (p2 : sm_lot a b c I1 r2 I2) : r1 = r2 ∧ LSx I2 := by
  obtain ⟨hR, byy, bp, be, bx, bo, bd⟩ := id hS
  have kr := kr_lot sc hR f1 f2 p1 p2
  have f := f1.cat f2
  have c36 : I2 3 6 = I1 3 6 := f2 3 6 rfl rfl
  have c25 : I2 25 = I1 25 := f2_fn (c := 25) f2 rfl (fun _ => rfl)
  refine ⟨kr.1, kr.2, (byy.kp (f 2 2 rfl rfl) (f2_fn (c := 24) f rfl (fun _ => rfl)) (f2_fn (c := 65) f rfl (fun _ => rfl))), (bp.kp (f2_fn (c := 13) f rfl (fun _ => rfl)) (f2_fn (c := 51) f rfl (fun _ => rfl))), (be.kp (f 1 9 rfl rfl) (f 12 11 rfl rfl) (f2_fn (c := 15) f rfl (fun _ => rfl)) (f2_fn (c := 16) f rfl (fun _ => rfl)) (f2_fn (c := 17) f rfl (fun _ => rfl)) (f2_fn (c := 18) f rfl (fun _ => rfl)) (f2_fn (c := 19) f rfl (fun _ => rfl)) (f2_fn (c := 58) f rfl (fun _ => rfl)) (f2_fn (c := 59) f rfl (fun _ => rfl)) (f2_fn (c := 60) f rfl (fun _ => rfl)) (f2_fn (c := 61) f rfl (fun _ => rfl)) (f2_fn (c := 62) f rfl (fun _ => rfl))), (bx.kp (f2_fn (c := 14) f rfl (fun _ => rfl)) (f2_fn (c := 52) f rfl (fun _ => rfl))), ?_, ?_⟩
  · refine ⟨(f2_fn (c := 29) f rfl (fun _ => rfl)).trans (bo.1.trans (f2_fn (c := 56) f rfl (fun _ => rfl)).symm), fun l hl => ?_⟩
    rw [c36] at hl
    rw [c25, f 1 2 rfl rfl]
    rcases p1 with ⟨n1, e1, i1⟩ | ⟨o1, l1, e1, i1⟩ | ⟨o1, l1, e1, i1⟩
    · rw [i1] at hl ⊢; exact bo.2 l hl
    · rw [i1] at hl ⊢; exact bo.2 l hl
    · have z1 : I1 3 6 = I 3 6 + 1 := (congrFun (congrFun i1 3) 6).trans rfl
      have z2 : I1 25 = upd (I 25) (I 3 6).toNatClampNeg a := (congrFun i1 25).trans rfl
      rw [z1, mi_inc l1 (by omega)] at hl
      have k := mi_cl sc.2.2.2.2.1.1
      rw [z2]
      unfold upd
      by_cases e : l = (I 3 6).toNatClampNeg
      · rw [if_pos e]; exact mi_lt.mp o1.1.2
      · rw [if_neg e]; exact bo.2 l (by omega)
  · refine ⟨(f2_fn (c := 37) f rfl (fun _ => rfl)).trans (bd.1.trans (f2_fn (c := 72) f rfl (fun _ => rfl)).symm), ?_, ?_, fun s l h1 h2 h3 => ?_, ?_⟩
    · rw [f2_fn (c := 30) f rfl (fun _ => rfl), f2_fn (c := 72) f rfl (fun _ => rfl)]; exact bd.2.1
    · rw [f2_fn (c := 36) f rfl (fun _ => rfl), f2_fn (c := 72) f rfl (fun _ => rfl)]; exact bd.2.2.1
    · rw [f2_fn (c := 72) f rfl (fun _ => rfl)]
      refine bd.2.2.2.1 s l h1 h2 ?_
      rw [c36] at h3
      rcases p1 with ⟨n1, e1, i1⟩ | ⟨o1, l1, e1, i1⟩ | ⟨o1, l1, e1, i1⟩
      · rw [i1] at h3; exact h3
      · rw [i1] at h3; exact h3
      · have z1 : I1 3 6 = I 3 6 + 1 := (congrFun (congrFun i1 3) 6).trans rfl
        rw [z1, mi_inc l1 (by omega)] at h3
        omega
    · rw [f2_fn (c := 36) f rfl (fun _ => rfl)]; exact bd.2.2.2.2
theorem ks_rail {a b r1 r2 : Int32} {I I1 I2 : mv_I} (sc : SC I) (hS : LSx I) (f1 : mg_f2 [28, 29] [] I I1) (f2 : mg_f2 [55, 56] [] I1 I2) (p1 : sp_rail a b I r1 I1) (p2 : sm_rail a b I1 r2 I2) : r1 = r2 ∧ LSx I2 := by
  obtain ⟨hR, byy, bp, be, bx, bo, bd⟩ := id hS
  obtain ⟨hw, hn, ht, hb, hk, hs, hl_, hh_, hi, hf⟩ := id hR
  have kr := kr_rail sc hR f1 f2 p1 p2
  have f := f1.cat f2
  obtain ⟨q1, q2, q3, q4, q5⟩ := id hl_
  refine ⟨kr.1, kr.2, (byy.kp (f 2 2 rfl rfl) (f2_fn (c := 24) f rfl (fun _ => rfl)) (f2_fn (c := 65) f rfl (fun _ => rfl))), (bp.kp (f2_fn (c := 13) f rfl (fun _ => rfl)) (f2_fn (c := 51) f rfl (fun _ => rfl))), (be.kp (f 1 9 rfl rfl) (f 12 11 rfl rfl) (f2_fn (c := 15) f rfl (fun _ => rfl)) (f2_fn (c := 16) f rfl (fun _ => rfl)) (f2_fn (c := 17) f rfl (fun _ => rfl)) (f2_fn (c := 18) f rfl (fun _ => rfl)) (f2_fn (c := 19) f rfl (fun _ => rfl)) (f2_fn (c := 58) f rfl (fun _ => rfl)) (f2_fn (c := 59) f rfl (fun _ => rfl)) (f2_fn (c := 60) f rfl (fun _ => rfl)) (f2_fn (c := 61) f rfl (fun _ => rfl)) (f2_fn (c := 62) f rfl (fun _ => rfl))), (bx.kp (f2_fn (c := 14) f rfl (fun _ => rfl)) (f2_fn (c := 52) f rfl (fun _ => rfl))), ⟨?_, by rw [f 3 6 rfl rfl, f2_fn (c := 25) f rfl (fun _ => rfl), f 1 2 rfl rfl]; exact bo.2⟩, (bd.kp (f 3 6 rfl rfl) (f2_fn (c := 30) f rfl (fun _ => rfl)) (f2_fn (c := 36) f rfl (fun _ => rfl)) (f2_fn (c := 37) f rfl (fun _ => rfl)) (f2_fn (c := 72) f rfl (fun _ => rfl)))⟩
  have c29 : I2 29 = I1 29 := f2_fn (c := 29) f2 rfl (fun _ => rfl)
  unfold sp_rail at p1
  unfold sm_rail at p2
  rw [f1 12 4 rfl rfl, f2_fn (c := 55) f1 rfl (fun _ => rfl), f2_fn (c := 56) f1 rfl (fun _ => rfl), ← q1, ← q5, ← bo.1] at p2
  rcases p1 with ⟨n1, e1, i1⟩ | ⟨o1, l1, e1, i1⟩ | ⟨o1, l1, e1, i1⟩
  · rcases p2 with ⟨n2, e2, i2⟩ | ⟨o2, l2, e2, i2⟩ | ⟨o2, l2, e2, i2⟩
    · rw [i2, i1]; exact bo.1
    · exact absurd o2 n1
    · exact absurd o2 n1
  · rcases p2 with ⟨n2, e2, i2⟩ | ⟨o2, l2, e2, i2⟩ | ⟨o2, l2, e2, i2⟩
    · exact absurd o1 n2
    · rw [i2, i1]; exact bo.1
    · exact absurd l2 l1
  · rcases p2 with ⟨n2, e2, i2⟩ | ⟨o2, l2, e2, i2⟩ | ⟨o2, l2, e2, i2⟩
    · exact absurd o1 n2
    · exact absurd l1 l2
    · have z1 : I2 29 = upd (I 29) a.toNatClampNeg (I 29 a.toNatClampNeg + b) := c29.trans ((congrFun i1 29).trans rfl)
      have z2 : I2 56 = upd (I 29) a.toNatClampNeg (I 29 a.toNatClampNeg + b) := (congrFun i2 56).trans rfl
      exact z1.trans z2.symm
theorem ks_type {w : Int64} {n r1 r2 : Int32} {I I1 I2 : mv_I} (sc : SC I) (hS : LSx I) (f1 : mg_f2 [24] [(2, 2)] I I1) (f2 : mg_f2 [65] [(12, 20)] I1 I2) (p1 : (sp_type w n I r1 I1 ∧ (vt_ok w n → (I 2 2).toInt + n.toInt ≤ 70 → I1 24 = apd (I 24) (I 2 2).toNatClampNeg w n.toNatClampNeg))) (p2 : (sm_type w n I1 r2 I2 ∧ (vt_ok w n → (I1 12 20).toInt + n.toInt ≤ 70 → I2 65 = apd (I1 65) (I1 12 20).toNatClampNeg w n.toNatClampNeg))) : r1 = r2 ∧ LSx I2 := by
  obtain ⟨hR, byy, bp, be, bx, bo, bd⟩ := id hS
  obtain ⟨hw, hn, ht, hb, hk, hs, hl_, hh_, hi, hf⟩ := id hR
  obtain ⟨p1, g1⟩ := p1
  obtain ⟨p2, g2⟩ := p2
  have kr := kr_type sc hR f1 f2 p1 p2
  have f := f1.cat f2
  have hkk : I 2 2 = I 12 20 := hk
  rw [f1 12 20 rfl rfl, ← hkk, f2_fn (c := 65) f1 rfl (fun _ => rfl), ← byy.1] at g2
  have c24 : I2 24 = I1 24 := f2_fn (c := 24) f2 rfl (fun _ => rfl)
  have c22 : I2 2 2 = I1 2 2 := f2 2 2 rfl rfl
  refine ⟨kr.1, kr.2, ?_, (bp.kp (f2_fn (c := 13) f rfl (fun _ => rfl)) (f2_fn (c := 51) f rfl (fun _ => rfl))), (be.kp (f 1 9 rfl rfl) (f 12 11 rfl rfl) (f2_fn (c := 15) f rfl (fun _ => rfl)) (f2_fn (c := 16) f rfl (fun _ => rfl)) (f2_fn (c := 17) f rfl (fun _ => rfl)) (f2_fn (c := 18) f rfl (fun _ => rfl)) (f2_fn (c := 19) f rfl (fun _ => rfl)) (f2_fn (c := 58) f rfl (fun _ => rfl)) (f2_fn (c := 59) f rfl (fun _ => rfl)) (f2_fn (c := 60) f rfl (fun _ => rfl)) (f2_fn (c := 61) f rfl (fun _ => rfl)) (f2_fn (c := 62) f rfl (fun _ => rfl))), (bx.kp (f2_fn (c := 14) f rfl (fun _ => rfl)) (f2_fn (c := 52) f rfl (fun _ => rfl))), (bo.kp (f 3 6 rfl rfl) (f 1 2 rfl rfl) (f2_fn (c := 29) f rfl (fun _ => rfl)) (f2_fn (c := 56) f rfl (fun _ => rfl)) (f2_fn (c := 25) f rfl (fun _ => rfl))), (bd.kp (f 3 6 rfl rfl) (f2_fn (c := 30) f rfl (fun _ => rfl)) (f2_fn (c := 36) f rfl (fun _ => rfl)) (f2_fn (c := 37) f rfl (fun _ => rfl)) (f2_fn (c := 72) f rfl (fun _ => rfl)))⟩
  unfold sp_type at p1
  unfold sm_type at p2
  rw [f1 12 20 rfl rfl, ← hkk] at p2
  rcases p1 with ⟨n1, e1, i1⟩ | ⟨o1, l1, e1, i1⟩ | ⟨o1, l1, e1, i1⟩
  · rcases p2 with ⟨n2, e2, i2⟩ | ⟨o2, l2, e2, i2⟩ | ⟨o2, l2, e2, i2⟩
    · rw [i2, i1]; exact byy
    · exact absurd o2 n1
    · exact absurd o2 n1
  · rcases p2 with ⟨n2, e2, i2⟩ | ⟨o2, l2, e2, i2⟩ | ⟨o2, l2, e2, i2⟩
    · exact absurd o1 n2
    · rw [i2, i1]; exact byy
    · exact absurd l2 l1
  · rcases p2 with ⟨n2, e2, i2⟩ | ⟨o2, l2, e2, i2⟩ | ⟨o2, l2, e2, i2⟩
    · exact absurd o1 n2
    · exact absurd l1 l2
    · have z1 := g1 o1 l1
      have z2 := g2 o2 l2
      have sl := sc.2.2.2.1.1
      have k1 := mi_cl sl
      have n18 := mg_le o1.1
      have c1 : (1 : Int32).toInt = 1 := by decide
      have c8 : (8 : Int32).toInt = 8 := by decide
      have n0 := n18.1
      have n9 := n18.2
      have k2 := mi_cl (x := n) (by omega)
      refine ⟨by rw [c24, z1, z2], fun j hj => ?_⟩
      rw [c22] at hj
      have k3 := mi_cl (x := I1 2 2) (by omega)
      rw [c24, z1]
      unfold apd
      by_cases e : (I 2 2).toNatClampNeg ≤ j ∧ j < (I 2 2).toNatClampNeg + n.toNatClampNeg
      · rw [if_pos e]
        have ok := o1.2 ((I 2 2).toNatClampNeg + n.toNatClampNeg - 1 - j) (by omega)
        have c32 : (32 : Int32).toInt = 32 := by decide
        have cx : (126 : Int32).toInt = 126 := by decide
        unfold bt_ok at ok
        rw [mi_le, mi_le, c32, cx] at ok
        exact ok
      · rw [if_neg e]
        exact byy.2 j (by omega)
theorem ks_parts {r1 r2 : Int32} {I I1 I2 : mv_I} (sc : SC I) (hS : LSx I) (f1 : mg_f2 [13, 23] [(2, 2), (2, 3)] I I1) (f2 : mg_f2 [51, 66] [(12, 20), (12, 21), (12, 22)] I1 I2) (p1 : ptC I r1 I1) (p2 : ptM I1 r2 I2) : r1 = r2 ∧ LSx I2 := by
  obtain ⟨hR, byy, bp, be, bx, bo, bd⟩ := id hS
  obtain ⟨hw, hn, ht, hb, hk, hs, hl_, hh_, hi, hf⟩ := id hR
  obtain ⟨z1, e1, g1⟩ := p1
  unfold ptM at p2
  have hkk : I 2 2 = I 12 20 := hk
  have ew : I 1 2 = I 12 0 := hw
  have ep : I 13 = I 51 := bp
  rw [f1 12 20 rfl rfl, ← hkk, f1 12 0 rfl rfl, ← ew, f2_fn (c := 65) f1 rfl (fun _ => rfl), ← byy.1, f2_fn (c := 51) f1 rfl (fun _ => rfl), f2_fn (c := 66) f1 rfl (fun _ => rfl), ← ep] at p2
  obtain ⟨z2, e2, g2⟩ := p2
  have f := f1.cat f2
  have s2 := sc.2.1
  have w8 : (I 1 2).toNatClampNeg ≤ 8 := le8 s2 (by omega)
  have c13 : I2 13 = I1 13 := f2_fn (c := 13) f2 rfl (fun _ => rfl)
  have RA := rp_all (f := I 24) (L := (I 2 2).toNatClampNeg) (W := (I 1 2).toNatClampNeg) 8 0 0 [] (by omega) (fun q hq => absurd hq (by simp))
  have c22 : I2 2 2 = 0 := (f2 2 2 rfl rfl).trans z1
  refine ⟨e1.trans e2.symm, kr_parts hR f1 f2 z1 z2, ?_, ?_, (be.kp (f 1 9 rfl rfl) (f 12 11 rfl rfl) (f2_fn (c := 15) f rfl (fun _ => rfl)) (f2_fn (c := 16) f rfl (fun _ => rfl)) (f2_fn (c := 17) f rfl (fun _ => rfl)) (f2_fn (c := 18) f rfl (fun _ => rfl)) (f2_fn (c := 19) f rfl (fun _ => rfl)) (f2_fn (c := 58) f rfl (fun _ => rfl)) (f2_fn (c := 59) f rfl (fun _ => rfl)) (f2_fn (c := 60) f rfl (fun _ => rfl)) (f2_fn (c := 61) f rfl (fun _ => rfl)) (f2_fn (c := 62) f rfl (fun _ => rfl))), (bx.kp (f2_fn (c := 14) f rfl (fun _ => rfl)) (f2_fn (c := 52) f rfl (fun _ => rfl))), (bo.kp (f 3 6 rfl rfl) (f 1 2 rfl rfl) (f2_fn (c := 29) f rfl (fun _ => rfl)) (f2_fn (c := 56) f rfl (fun _ => rfl)) (f2_fn (c := 25) f rfl (fun _ => rfl))), (bd.kp (f 3 6 rfl rfl) (f2_fn (c := 30) f rfl (fun _ => rfl)) (f2_fn (c := 36) f rfl (fun _ => rfl)) (f2_fn (c := 37) f rfl (fun _ => rfl)) (f2_fn (c := 72) f rfl (fun _ => rfl)))⟩
  · refine ⟨(f2_fn (c := 24) f rfl (fun _ => rfl)).trans (byy.1.trans (f2_fn (c := 65) f rfl (fun _ => rfl)).symm), fun j hj => ?_⟩
    rw [c22] at hj
    exact absurd hj (by have : (0 : Int32).toNatClampNeg = 0 := (by decide); omega)
  · show I2 13 = I2 51
    rw [c13, g1, g2]
    by_cases hq : (rp (I 24) (I 2 2).toNatClampNeg (I 1 2).toNatClampNeg 8 0 0 []).1 = true
    · rw [if_pos hq, if_pos hq]
      exact tkp_eq (fun z hz => if_pos ⟨by omega, by omega⟩) (fun z hz => if_pos hz) RA.1
    · rw [if_neg hq, if_neg hq]
theorem rb_e.en {I I1 I2 : mv_I} {r1 r2 k a b b' n f : Int32} (be : rb_e I) (he : rg (I 1 9) 0 100) (hn : rg n 0 100000) (hf : 0 ≤ f.toInt) (hb : k = 0 → b = b') (s1 : I1 58 = I 58) (s2 : I1 59 = I 59) (s3 : I1 60 = I 60) (s4 : I1 61 = I 61) (s5 : I1 62 = I 62) (s6 : I1 12 11 = I 12 11) (u0 : I2 1 9 = I1 1 9) (u1 : I2 15 = I1 15) (u2 : I2 16 = I1 16) (u3 : I2 17 = I1 17) (u4 : I2 18 = I1 18) (u5 : I2 19 = I1 19) (p1 : en I r1 I1 k a b n f) (p2 : en2 I1 r2 I2 k a b' n f) : r1 = r2 ∧ rb_e I2 := by
  obtain ⟨e1, e2, e3, e4, e5, e6, e7, e8⟩ := be
  have p2 := p2.kp (I := I) s6 s1 s2 s3 s4 s5
  unfold en2 at p2
  rw [← e1, ← e2, ← e3, ← e4, ← e5] at p2
  rcases p1 with ⟨a1, a2, a3⟩ | ⟨a1, a2, a3, a4, a5, a6, a7, a8⟩
  · rcases p2 with ⟨b1, b2, b3⟩ | ⟨b1, b2, b3⟩
    · obtain ⟨v0, v1, v2, v3, v4, v5⟩ := a3
      obtain ⟨w0, w1, w2, w3, w4, w5⟩ := b3
      refine ⟨a2.trans b2.symm, ?_⟩
      unfold rb_e
      rw [u0, u1, u2, u3, u4, u5, v0, v1, v2, v3, v4, v5, w0, w1, w2, w3, w4, w5]
      exact ⟨e1, e2, e3, e4, e5, e6, e7, e8⟩
    · exfalso; omega
  · rcases p2 with ⟨b1, b2, b3⟩ | ⟨b1, b2, b3, b4, b5, b6, b7, b8⟩
    · exfalso; omega
    · refine ⟨a2.trans b2.symm, ?_⟩
      unfold rb_e
      rw [u0, u1, u2, u3, u4, u5, a3, a4, a5, a6, a7, a8, b3, b4, b5, b6, b7, b8]
      refine ⟨rfl, rfl, rfl, rfl, rfl, fun j hj => ?_, fun j => ?_, fun j => ?_⟩
      · unfold upd at hj ⊢
        by_cases e : j = (I 1 9).toNatClampNeg
        · rw [if_pos e] at hj ⊢
          rw [if_pos e]
          exact hb hj
        · rw [if_neg e] at hj ⊢
          rw [if_neg e]
          exact e6 j hj
      · unfold upd
        by_cases e : j = (I 1 9).toNatClampNeg
        · rw [if_pos e]; exact hn
        · rw [if_neg e]; exact e7 j
      · unfold upd
        by_cases e : j = (I 1 9).toNatClampNeg
        · rw [if_pos e]; exact hf
        · rw [if_neg e]; exact e8 j
theorem rb_e.st {I I1 I2 : mv_I} (be : rb_e I) (s1 : I1 58 = I 58) (s2 : I1 59 = I 59) (s3 : I1 60 = I 60) (s4 : I1 61 = I 61) (s5 : I1 62 = I 62) (s6 : I1 12 11 = I 12 11) (u0 : I2 1 9 = I1 1 9) (u1 : I2 15 = I1 15) (u2 : I2 16 = I1 16) (u3 : I2 17 = I1 17) (u4 : I2 18 = I1 18) (u5 : I2 19 = I1 19) (p1 : enS I I1) (p2 : en2S I1 I2) : rb_e I2 := by
  obtain ⟨v0, v1, v2, v3, v4, v5⟩ := p1
  obtain ⟨w0, w1, w2, w3, w4, w5⟩ := p2
  unfold rb_e at *
  rw [u0, u1, u2, u3, u4, u5, v0, v1, v2, v3, v4, v5, w0, w1, w2, w3, w4, w5, s1, s2, s3, s4, s5, s6]
  exact be
theorem ks_shut {a b c r1 r2 : Int32} {I I1 I2 : mv_I} (sc : SC I) (hS : LSx I) (f1 : mg_f2 [15, 16, 17, 18, 19] [(1, 9)] I I1) (f2 : mg_f2 [58, 59, 60, 61, 62] [(12, 11)] I1 I2) (p1 : ((¬ oks a c (I 1 2) ∧ r1 = -1 ∧ enS I I1) ∨ (oks a c (I 1 2) ∧ en I r1 I1 (knd b) a a 0 c))) (p2 : ((¬ oks a c (I1 12 0) ∧ r2 = -1 ∧ en2S I1 I2) ∨ (oks a c (I1 12 0) ∧ en2 I1 r2 I2 (knd b) a 0 0 c))) : r1 = r2 ∧ LSx I2 := by
  obtain ⟨hR, byy, bp, be, bx, bo, bd⟩ := id hS
  obtain ⟨hw, hn, ht, hb, hk, hs, hl_, hh_, hi, hf⟩ := id hR
  have f := f1.cat f2
  have ew : I 1 2 = I 12 0 := hw
  rw [f1 12 0 rfl rfl, ← ew] at p2
  have X : r1 = r2 ∧ rb_e I2 := by
    rcases p1 with ⟨n1, e1, i1⟩ | ⟨o1, i1⟩
    · rcases p2 with ⟨n2, e2, i2⟩ | ⟨o2, i2⟩
      · exact ⟨e1.trans e2.symm, be.st (f2_fn (c := 58) f1 rfl (fun _ => rfl)) (f2_fn (c := 59) f1 rfl (fun _ => rfl)) (f2_fn (c := 60) f1 rfl (fun _ => rfl)) (f2_fn (c := 61) f1 rfl (fun _ => rfl)) (f2_fn (c := 62) f1 rfl (fun _ => rfl)) (f1 12 11 rfl rfl) (f2 1 9 rfl rfl) (f2_fn (c := 15) f2 rfl (fun _ => rfl)) (f2_fn (c := 16) f2 rfl (fun _ => rfl)) (f2_fn (c := 17) f2 rfl (fun _ => rfl)) (f2_fn (c := 18) f2 rfl (fun _ => rfl)) (f2_fn (c := 19) f2 rfl (fun _ => rfl)) i1 i2⟩
      · exact absurd o2 n1
    · rcases p2 with ⟨n2, e2, i2⟩ | ⟨o2, i2⟩
      · exact absurd o1 n2
      · exact be.en sc.2.2.1 ⟨by decide, by decide⟩ (by have := (mg_le o1.2).1; have : (0 : Int32).toInt = 0 := (by decide); omega) (fun e => by
          unfold knd at e
          by_cases z : b = 0
          · rw [if_pos z] at e; exact absurd e (by decide)
          · rw [if_neg z] at e; exact absurd e (by decide)) (f2_fn (c := 58) f1 rfl (fun _ => rfl)) (f2_fn (c := 59) f1 rfl (fun _ => rfl)) (f2_fn (c := 60) f1 rfl (fun _ => rfl)) (f2_fn (c := 61) f1 rfl (fun _ => rfl)) (f2_fn (c := 62) f1 rfl (fun _ => rfl)) (f1 12 11 rfl rfl) (f2 1 9 rfl rfl) (f2_fn (c := 15) f2 rfl (fun _ => rfl)) (f2_fn (c := 16) f2 rfl (fun _ => rfl)) (f2_fn (c := 17) f2 rfl (fun _ => rfl)) (f2_fn (c := 18) f2 rfl (fun _ => rfl)) (f2_fn (c := 19) f2 rfl (fun _ => rfl)) i1 i2
  exact ⟨X.1, kr_shut hR f1 f2, (byy.kp (f 2 2 rfl rfl) (f2_fn (c := 24) f rfl (fun _ => rfl)) (f2_fn (c := 65) f rfl (fun _ => rfl))), (bp.kp (f2_fn (c := 13) f rfl (fun _ => rfl)) (f2_fn (c := 51) f rfl (fun _ => rfl))), X.2, (bx.kp (f2_fn (c := 14) f rfl (fun _ => rfl)) (f2_fn (c := 52) f rfl (fun _ => rfl))), (bo.kp (f 3 6 rfl rfl) (f 1 2 rfl rfl) (f2_fn (c := 29) f rfl (fun _ => rfl)) (f2_fn (c := 56) f rfl (fun _ => rfl)) (f2_fn (c := 25) f rfl (fun _ => rfl))), (bd.kp (f 3 6 rfl rfl) (f2_fn (c := 30) f rfl (fun _ => rfl)) (f2_fn (c := 36) f rfl (fun _ => rfl)) (f2_fn (c := 37) f rfl (fun _ => rfl)) (f2_fn (c := 72) f rfl (fun _ => rfl)))⟩
theorem ks_lend {a b c r1 r2 : Int32} {I I1 I2 : mv_I} (sc : SC I) (hS : LSx I) (f1 : mg_f2 [15, 16, 17, 18, 19, 20, 21, 22] [(1, 9)] I I1) (f2 : mg_f2 [58, 59, 60, 61, 62, 64] [(12, 11)] I1 I2) (p1 : lnR (okl a b c (I 1 2)) (QC I (I 0 7) a (I 1 9).toNatClampNeg) (I 14 a.toNatClampNeg).toInt c.toInt (enS I I1) (en I r1 I1 0 a b c (I 0 7)) r1) (p2 : lnR (okl a b c (I1 12 0)) (QM I1 (I1 12 3) a (I1 12 11).toNatClampNeg) (I1 52 a.toNatClampNeg).toInt c.toInt (en2S I1 I2) (en2 I1 r2 I2 0 a b c (I1 12 3)) r2) : r1 = r2 ∧ LSx I2 := by
  obtain ⟨hR, byy, bp, be, bx, bo, bd⟩ := id hS
  obtain ⟨hw, hn, ht, hb, hk, hs, hl_, hh_, hi, hf⟩ := id hR
  have f := f1.cat f2
  have g := f1.cl rfl rfl
  have ew : I 1 2 = I 12 0 := hw
  have en_ : I 0 7 = I 12 3 := hn
  rw [f1 12 0 rfl rfl, ← ew, f1 12 3 rfl rfl, ← en_, f1 12 11 rfl rfl, ← be.1, f2_fn (c := 52) f1 rfl (fun _ => rfl), ← bx.1] at p2
  have X : r1 = r2 ∧ rb_e I2 := by
    rcases p1 with ⟨n1, e1, i1⟩ | ⟨o1, v1, q1, p1⟩
    · rcases p2 with ⟨n2, e2, i2⟩ | ⟨o2, v2, q2, p2⟩
      · exact ⟨e1.trans e2.symm, be.st (f2_fn (c := 58) f1 rfl (fun _ => rfl)) (f2_fn (c := 59) f1 rfl (fun _ => rfl)) (f2_fn (c := 60) f1 rfl (fun _ => rfl)) (f2_fn (c := 61) f1 rfl (fun _ => rfl)) (f2_fn (c := 62) f1 rfl (fun _ => rfl)) (f1 12 11 rfl rfl) (f2 1 9 rfl rfl) (f2_fn (c := 15) f2 rfl (fun _ => rfl)) (f2_fn (c := 16) f2 rfl (fun _ => rfl)) (f2_fn (c := 17) f2 rfl (fun _ => rfl)) (f2_fn (c := 18) f2 rfl (fun _ => rfl)) (f2_fn (c := 19) f2 rfl (fun _ => rfl)) i1 i2⟩
      · exact absurd o2 n1
    · rcases p2 with ⟨n2, e2, i2⟩ | ⟨o2, v2, q2, p2⟩
      · exact absurd o1 n2
      · have ev := qEq hS o1.1 q1 (QM_kp g q2)
        rcases p1 with ⟨l1, e1, i1⟩ | ⟨l1, i1⟩
        · rcases p2 with ⟨l2, e2, i2⟩ | ⟨l2, i2⟩
          · exact ⟨e1.trans e2.symm, be.st (f2_fn (c := 58) f1 rfl (fun _ => rfl)) (f2_fn (c := 59) f1 rfl (fun _ => rfl)) (f2_fn (c := 60) f1 rfl (fun _ => rfl)) (f2_fn (c := 61) f1 rfl (fun _ => rfl)) (f2_fn (c := 62) f1 rfl (fun _ => rfl)) (f1 12 11 rfl rfl) (f2 1 9 rfl rfl) (f2_fn (c := 15) f2 rfl (fun _ => rfl)) (f2_fn (c := 16) f2 rfl (fun _ => rfl)) (f2_fn (c := 17) f2 rfl (fun _ => rfl)) (f2_fn (c := 18) f2 rfl (fun _ => rfl)) (f2_fn (c := 19) f2 rfl (fun _ => rfl)) i1 i2⟩
          · exfalso; omega
        · rcases p2 with ⟨l2, e2, i2⟩ | ⟨l2, i2⟩
          · exfalso; omega
          · have c100k : (100000 : Int32).toInt = 100000 := by decide
            have c1 : (1 : Int32).toInt = 1 := by decide
            have hc := mg_le o1.2.2.2
            exact be.en sc.2.2.1 ⟨by have := hc.1; omega, by have := hc.2; omega⟩ sc.1.1 (fun _ => rfl) (f2_fn (c := 58) f1 rfl (fun _ => rfl)) (f2_fn (c := 59) f1 rfl (fun _ => rfl)) (f2_fn (c := 60) f1 rfl (fun _ => rfl)) (f2_fn (c := 61) f1 rfl (fun _ => rfl)) (f2_fn (c := 62) f1 rfl (fun _ => rfl)) (f1 12 11 rfl rfl) (f2 1 9 rfl rfl) (f2_fn (c := 15) f2 rfl (fun _ => rfl)) (f2_fn (c := 16) f2 rfl (fun _ => rfl)) (f2_fn (c := 17) f2 rfl (fun _ => rfl)) (f2_fn (c := 18) f2 rfl (fun _ => rfl)) (f2_fn (c := 19) f2 rfl (fun _ => rfl)) i1 i2
  exact ⟨X.1, kr_lend hR f1 f2, (byy.kp (f 2 2 rfl rfl) (f2_fn (c := 24) f rfl (fun _ => rfl)) (f2_fn (c := 65) f rfl (fun _ => rfl))), (bp.kp (f2_fn (c := 13) f rfl (fun _ => rfl)) (f2_fn (c := 51) f rfl (fun _ => rfl))), X.2, (bx.kp (f2_fn (c := 14) f rfl (fun _ => rfl)) (f2_fn (c := 52) f rfl (fun _ => rfl))), (bo.kp (f 3 6 rfl rfl) (f 1 2 rfl rfl) (f2_fn (c := 29) f rfl (fun _ => rfl)) (f2_fn (c := 56) f rfl (fun _ => rfl)) (f2_fn (c := 25) f rfl (fun _ => rfl))), (bd.kp (f 3 6 rfl rfl) (f2_fn (c := 30) f rfl (fun _ => rfl)) (f2_fn (c := 36) f rfl (fun _ => rfl)) (f2_fn (c := 37) f rfl (fun _ => rfl)) (f2_fn (c := 72) f rfl (fun _ => rfl)))⟩
theorem ks_quota {a b c r1 r2 : Int32} {I I1 I2 : mv_I} (sc : SC I) (hS : LSx I) (f1 : mg_f2 [20, 21, 22] [] I I1) (f2 : mg_f2 [64] [] I1 I2) (p1 : qoR (okq a b c (I 1 2) (I 1 9)) (QC I b a c.toNatClampNeg) r1) (p2 : qoR (okq a b c (I1 12 0) (I1 12 11)) (QM I1 b a c.toNatClampNeg) r2) : r1 = r2 ∧ LSx I2 := by
  obtain ⟨hR, byy, bp, be, bx, bo, bd⟩ := id hS
  obtain ⟨hw, hn, ht, hb, hk, hs, hl_, hh_, hi, hf⟩ := id hR
  have f := f1.cat f2
  have g := f1.cl rfl rfl
  have ew : I 1 2 = I 12 0 := hw
  rw [f1 12 0 rfl rfl, ← ew, f1 12 11 rfl rfl, ← be.1] at p2
  refine ⟨?_, kr_quota hR f1 f2, (byy.kp (f 2 2 rfl rfl) (f2_fn (c := 24) f rfl (fun _ => rfl)) (f2_fn (c := 65) f rfl (fun _ => rfl))), (bp.kp (f2_fn (c := 13) f rfl (fun _ => rfl)) (f2_fn (c := 51) f rfl (fun _ => rfl))), (be.kp (f 1 9 rfl rfl) (f 12 11 rfl rfl) (f2_fn (c := 15) f rfl (fun _ => rfl)) (f2_fn (c := 16) f rfl (fun _ => rfl)) (f2_fn (c := 17) f rfl (fun _ => rfl)) (f2_fn (c := 18) f rfl (fun _ => rfl)) (f2_fn (c := 19) f rfl (fun _ => rfl)) (f2_fn (c := 58) f rfl (fun _ => rfl)) (f2_fn (c := 59) f rfl (fun _ => rfl)) (f2_fn (c := 60) f rfl (fun _ => rfl)) (f2_fn (c := 61) f rfl (fun _ => rfl)) (f2_fn (c := 62) f rfl (fun _ => rfl))), (bx.kp (f2_fn (c := 14) f rfl (fun _ => rfl)) (f2_fn (c := 52) f rfl (fun _ => rfl))), (bo.kp (f 3 6 rfl rfl) (f 1 2 rfl rfl) (f2_fn (c := 29) f rfl (fun _ => rfl)) (f2_fn (c := 56) f rfl (fun _ => rfl)) (f2_fn (c := 25) f rfl (fun _ => rfl))), (bd.kp (f 3 6 rfl rfl) (f2_fn (c := 30) f rfl (fun _ => rfl)) (f2_fn (c := 36) f rfl (fun _ => rfl)) (f2_fn (c := 37) f rfl (fun _ => rfl)) (f2_fn (c := 72) f rfl (fun _ => rfl)))⟩
  rcases p1 with ⟨n1, e1⟩ | ⟨o1, q1⟩
  · rcases p2 with ⟨n2, e2⟩ | ⟨o2, q2⟩
    · exact e1.trans e2.symm
    · exact absurd o2 n1
  · rcases p2 with ⟨n2, e2⟩ | ⟨o2, q2⟩
    · exact absurd o1 n2
    · exact mi_eq.mpr (qEq hS o1.1 q1 (QM_kp g q2))
theorem ks_left {a r1 r2 : Int32} {I I1 I2 : mv_I} (sc : SC I) (hS : LSx I) (f1 : mg_f2 [20, 21, 22] [] I I1) (f2 : mg_f2 [64] [] I1 I2) (p1 : lfR (0 ≤ a ∧ a < I 1 2) (QC I (I 0 7) a (I 1 9).toNatClampNeg) (I 14 a.toNatClampNeg).toInt r1) (p2 : lfR (0 ≤ a ∧ a < I1 12 0) (QM I1 (I1 12 3) a (I1 12 11).toNatClampNeg) (I1 52 a.toNatClampNeg).toInt r2) : r1 = r2 ∧ LSx I2 := by
  obtain ⟨hR, byy, bp, be, bx, bo, bd⟩ := id hS
  obtain ⟨hw, hn, ht, hb, hk, hs, hl_, hh_, hi, hf⟩ := id hR
  have f := f1.cat f2
  have g := f1.cl rfl rfl
  have ew : I 1 2 = I 12 0 := hw
  have en_ : I 0 7 = I 12 3 := hn
  rw [f1 12 0 rfl rfl, ← ew, f1 12 3 rfl rfl, ← en_, f1 12 11 rfl rfl, ← be.1, f2_fn (c := 52) f1 rfl (fun _ => rfl), ← bx.1] at p2
  refine ⟨?_, kr_left hR f1 f2, (byy.kp (f 2 2 rfl rfl) (f2_fn (c := 24) f rfl (fun _ => rfl)) (f2_fn (c := 65) f rfl (fun _ => rfl))), (bp.kp (f2_fn (c := 13) f rfl (fun _ => rfl)) (f2_fn (c := 51) f rfl (fun _ => rfl))), (be.kp (f 1 9 rfl rfl) (f 12 11 rfl rfl) (f2_fn (c := 15) f rfl (fun _ => rfl)) (f2_fn (c := 16) f rfl (fun _ => rfl)) (f2_fn (c := 17) f rfl (fun _ => rfl)) (f2_fn (c := 18) f rfl (fun _ => rfl)) (f2_fn (c := 19) f rfl (fun _ => rfl)) (f2_fn (c := 58) f rfl (fun _ => rfl)) (f2_fn (c := 59) f rfl (fun _ => rfl)) (f2_fn (c := 60) f rfl (fun _ => rfl)) (f2_fn (c := 61) f rfl (fun _ => rfl)) (f2_fn (c := 62) f rfl (fun _ => rfl))), (bx.kp (f2_fn (c := 14) f rfl (fun _ => rfl)) (f2_fn (c := 52) f rfl (fun _ => rfl))), (bo.kp (f 3 6 rfl rfl) (f 1 2 rfl rfl) (f2_fn (c := 29) f rfl (fun _ => rfl)) (f2_fn (c := 56) f rfl (fun _ => rfl)) (f2_fn (c := 25) f rfl (fun _ => rfl))), (bd.kp (f 3 6 rfl rfl) (f2_fn (c := 30) f rfl (fun _ => rfl)) (f2_fn (c := 36) f rfl (fun _ => rfl)) (f2_fn (c := 37) f rfl (fun _ => rfl)) (f2_fn (c := 72) f rfl (fun _ => rfl)))⟩
  rcases p1 with ⟨n1, e1⟩ | ⟨o1, v1, q1, e1⟩
  · rcases p2 with ⟨n2, e2⟩ | ⟨o2, v2, q2, e2⟩
    · exact e1.trans e2.symm
    · exact absurd o2 n1
  · rcases p2 with ⟨n2, e2⟩ | ⟨o2, v2, q2, e2⟩
    · exact absurd o1 n2
    · have ev := qEq hS o1 q1 (QM_kp g q2)
      rw [← ev] at e2
      exact mi_eq.mpr (e1.trans e2.symm)
theorem hl_up {f : Nat → Int32} {s l : Nat} {c : Int32} (hl60 : l < 60) : ∀ (n t : Nat), n ≤ 60 → hl (upd f (60 * s + l) (f (60 * s + l) + c)) t n = if t = s ∧ l < n then hl f t n + c else hl f t n
  | 0, t, _ => by rw [if_neg (fun q => absurd q.2 (by omega))]; rfl
  | n + 1, t, h => by
    have ih := hl_up (f := f) (s := s) (l := l) (c := c) hl60 n t (by omega)
    show hl (upd f (60 * s + l) (f (60 * s + l) + c)) t n + upd f (60 * s + l) (f (60 * s + l) + c) (60 * t + n) = if t = s ∧ l < n + 1 then hl f t n + f (60 * t + n) + c else hl f t n + f (60 * t + n)
    rw [ih]
    unfold upd
    by_cases e : 60 * t + n = 60 * s + l
    · have e1 : t = s := by omega
      have e2 : l = n := by omega
      rw [if_pos e, if_neg (fun q => absurd q.2 (by omega)), if_pos ⟨e1, by omega⟩, e, Int32.add_assoc]
    · rw [if_neg e]
      by_cases g : t = s ∧ l < n
      · rw [if_pos g, if_pos ⟨g.1, by omega⟩, Int32.add_assoc, Int32.add_comm c, ← Int32.add_assoc]
      · rw [if_neg g, if_neg (fun q => g ⟨q.1, by omega⟩)]
theorem hh_up {f : Nat → Int32} {s l : Nat} {c : Int32} (hl60 : l < 60) : ∀ (n m : Nat), m < 60 → hh (upd f (60 * s + l) (f (60 * s + l) + c)) m n = if m = l ∧ s < n then hh f m n + c else hh f m n
  | 0, m, _ => by rw [if_neg (fun q => absurd q.2 (by omega))]; rfl
  | n + 1, m, h => by
    have ih := hh_up (f := f) (s := s) (l := l) (c := c) hl60 n m h
    show hh (upd f (60 * s + l) (f (60 * s + l) + c)) m n + upd f (60 * s + l) (f (60 * s + l) + c) (60 * n + m) = if m = l ∧ s < n + 1 then hh f m n + f (60 * n + m) + c else hh f m n + f (60 * n + m)
    rw [ih]
    unfold upd
    by_cases e : 60 * n + m = 60 * s + l
    · have e1 : m = l := by omega
      have e2 : s = n := by omega
      rw [if_pos e, if_neg (fun q => absurd q.2 (by omega)), if_pos ⟨e1, by omega⟩, e, Int32.add_assoc]
    · rw [if_neg e]
      by_cases g : m = l ∧ s < n
      · rw [if_pos g, if_pos ⟨g.1, by omega⟩, Int32.add_assoc, Int32.add_comm c, ← Int32.add_assoc]
      · rw [if_neg g, if_neg (fun q => g ⟨q.1, by omega⟩)]
theorem hl_z {f : Nat → Int32} {s : Nat} : ∀ (n m : Nat), m ≤ n → (∀ l, m ≤ l → l < n → f (60 * s + l) = 0) → hl f s n = hl f s m
  | 0, m, h, _ => by rw [show m = 0 by omega]
  | n + 1, m, h, hz => by
    by_cases e : m = n + 1
    · rw [e]
    · show hl f s n + f (60 * s + n) = _
      rw [hz n (by omega) (by omega), Int32.add_zero]
      exact hl_z n m (by omega) (fun l h1 h2 => hz l h1 (by omega))
theorem LSx.hl {I : mv_I} (hS : LSx I) (sc : SC I) {s : Nat} (hs : s < 6) : hl (I 72) s (I 12 4).toNatClampNeg = I 36 s := by
  obtain ⟨hR, byy, bp, be, bx, bo, bd⟩ := id hS
  obtain ⟨hw, hn, ht, hb, hk, hs_, hl_, hh_, hi, hf⟩ := id hR
  obtain ⟨q1, q2, q3, q4, q5⟩ := id hl_
  rw [bd.2.2.1 s hs, ← q1]
  have s5 := sc.2.2.2.2.1
  have k := mi_cl s5.1
  exact (hl_z 60 _ (le8 s5 (by omega)) (fun l h1 h2 => bd.2.2.2.1 s l hs h2 (by omega))).symm
set_option maxHeartbeats 1000000 in
theorem ks_load {a b c r1 r2 : Int32} {I I1 I2 : mv_I} (sc : SC I) (sm : SM I) (hS : LSx I) (f1 : mg_f2 [14, 20, 21, 22, 29, 30, 36, 37] [] I I1) (f2 : mg_f2 [52, 56, 64, 72] [] I1 I2) (p1 : ldR (okd a b c (I 4 7) (I 3 6)) c (I 29 b.toNatClampNeg) (I 32 a.toNatClampNeg - I 36 a.toNatClampNeg) (QC I (I 0 7) (I 25 b.toNatClampNeg) (I 1 9).toNatClampNeg) (I 14 (I 25 b.toNatClampNeg).toNatClampNeg).toInt (ldS I I1) (ldD I I1 a b c r1) r1) (p2 : ldR (okd a b c (I1 12 24) (I1 12 4)) c (I1 56 b.toNatClampNeg) (I1 68 a.toNatClampNeg - hl (I1 72) a.toNatClampNeg (I1 12 4).toNatClampNeg) (QM I1 (I1 12 3) (I1 53 b.toNatClampNeg) (I1 12 11).toNatClampNeg) (I1 52 (I1 53 b.toNatClampNeg).toNatClampNeg).toInt (ldS2 I1 I2) (ldD2 I1 I2 a b c r2) r2) : r1 = r2 ∧ LSx I2 := by
  obtain ⟨hR, byy, bp, be, bx, bo, bd⟩ := id hS
  obtain ⟨hw, hn, ht, hb, hk, hs, hl_, hh_, hi, hf⟩ := id hR
  have f := f1.cat f2
  have g := f1.cl rfl rfl
  have ew : I 1 2 = I 12 0 := hw
  have en_ : I 0 7 = I 12 3 := hn
  obtain ⟨q1, q2, q3, q4, q5⟩ := id hl_
  obtain ⟨v1, v2, v3, v4, v5, v6⟩ := id hs
  have c52 : I1 52 = I 14 := (f2_fn (c := 52) f1 rfl (fun _ => rfl)).trans bx.1.symm
  have c53 : I1 53 = I 25 := (f2_fn (c := 53) f1 rfl (fun _ => rfl)).trans q2.symm
  have c56 : I1 56 = I 29 := (f2_fn (c := 56) f1 rfl (fun _ => rfl)).trans bo.1.symm
  have c68 : I1 68 = I 32 := (f2_fn (c := 68) f1 rfl (fun _ => rfl)).trans v3.symm
  have c72 : I1 72 = I 72 := f2_fn (c := 72) f1 rfl (fun _ => rfl)
  have d4 : I1 12 4 = I 12 4 := f1 12 4 rfl rfl
  unfold ldS2 ldD2 at p2
  rw [c52, c53, c56, c68, c72, d4, f1 12 24 rfl rfl, ← v1, f1 12 3 rfl rfl, ← en_, f1 12 11 rfl rfl, ← be.1] at p2
  have W14 : I2 14 = I1 14 := f2_fn (c := 14) f2 rfl (fun _ => rfl)
  have W29 : I2 29 = I1 29 := f2_fn (c := 29) f2 rfl (fun _ => rfl)
  have W30 : I2 30 = I1 30 := f2_fn (c := 30) f2 rfl (fun _ => rfl)
  have W36 : I2 36 = I1 36 := f2_fn (c := 36) f2 rfl (fun _ => rfl)
  have W37 : I2 37 = I1 37 := f2_fn (c := 37) f2 rfl (fun _ => rfl)
  have KO : I2 29 = I2 56 → rb_o I2 := fun z => ⟨z, by rw [f 3 6 rfl rfl, f2_fn (c := 25) f rfl (fun _ => rfl), f 1 2 rfl rfl]; exact bo.2⟩
  have ST : ldS I I1 → (I2 52 = I 14 ∧ I2 56 = I 29 ∧ I2 72 = I 72) → LSx I2 := fun z1 z2 => ⟨kr_load hR f1 f2, (byy.kp (f 2 2 rfl rfl) (f2_fn (c := 24) f rfl (fun _ => rfl)) (f2_fn (c := 65) f rfl (fun _ => rfl))), (bp.kp (f2_fn (c := 13) f rfl (fun _ => rfl)) (f2_fn (c := 51) f rfl (fun _ => rfl))), (be.kp (f 1 9 rfl rfl) (f 12 11 rfl rfl) (f2_fn (c := 15) f rfl (fun _ => rfl)) (f2_fn (c := 16) f rfl (fun _ => rfl)) (f2_fn (c := 17) f rfl (fun _ => rfl)) (f2_fn (c := 18) f rfl (fun _ => rfl)) (f2_fn (c := 19) f rfl (fun _ => rfl)) (f2_fn (c := 58) f rfl (fun _ => rfl)) (f2_fn (c := 59) f rfl (fun _ => rfl)) (f2_fn (c := 60) f rfl (fun _ => rfl)) (f2_fn (c := 61) f rfl (fun _ => rfl)) (f2_fn (c := 62) f rfl (fun _ => rfl))), ⟨by rw [W14, z1.1, z2.1], by rw [W14, z1.1]; exact bx.2⟩, KO (by rw [W29, z1.2.1, z2.2.1]), ⟨by rw [W37, z1.2.2.2.2, z2.2.2]; exact bd.1, by rw [W30, z1.2.2.1, z2.2.2]; exact bd.2.1, by rw [W36, z1.2.2.2.1, z2.2.2]; exact bd.2.2.1, by rw [z2.2.2, f 3 6 rfl rfl]; exact bd.2.2.2.1, by rw [W36, z1.2.2.2.1]; exact bd.2.2.2.2⟩⟩
  rcases p1 with ⟨n1, e1, i1⟩ | p1
  · rcases p2 with ⟨n2, e2, i2⟩ | p2
    · exact ⟨e1.trans e2.symm, ST i1 i2⟩
    · have ok : okd a b c (I 4 7) (I 12 4) := by
        rcases p2 with ⟨o, _⟩ | ⟨o, _⟩ | ⟨o, _⟩
        · exact o
        · exact o
        · exact o
      rw [← q1] at ok
      exact absurd ok n1
  · have ok : okd a b c (I 4 7) (I 3 6) := by
      rcases p1 with ⟨o, _⟩ | ⟨o, _⟩ | ⟨o, _⟩
      · exact o
      · exact o
      · exact o
    have ha : rg a 0 5 := mg_lt ok.1 sc.2.2.2.2.2.2.1.1.2
    have hb_ : rg b 0 59 := mg_lt ok.2.1 sc.2.2.2.2.1.2
    have ka := mi_cl ha.1
    have kb := mi_cl hb_.1
    have a1 := ha.2
    have b1 := hb_.2
    have hL := hS.hl sc (s := a.toNatClampNeg) (by omega)
    rw [hL] at p2
    rcases p2 with ⟨n2, e2, i2⟩ | p2
    · rw [← q1] at n2
      exact absurd ok n2
    · rcases p1 with ⟨_, l1, e1, i1⟩ | ⟨_, l1, m1, e1, i1⟩ | ⟨_, l1, m1, x1, w1, p1⟩
      · rcases p2 with ⟨_, l2, e2, i2⟩ | ⟨_, l2, m2, e2, i2⟩ | ⟨_, l2, m2, x2, w2, p2⟩
        · exact ⟨e1.trans e2.symm, ST i1 i2⟩
        · exact absurd l1 l2
        · exact absurd l1 l2
      · rcases p2 with ⟨_, l2, e2, i2⟩ | ⟨_, l2, m2, e2, i2⟩ | ⟨_, l2, m2, x2, w2, p2⟩
        · exact absurd l2 l1
        · exact ⟨e1.trans e2.symm, ST i1 i2⟩
        · exact absurd m1 m2
      · rcases p2 with ⟨_, l2, e2, i2⟩ | ⟨_, l2, m2, e2, i2⟩ | ⟨_, l2, m2, x2, w2, p2⟩
        · exact absurd l2 l1
        · exact absurd m2 m1
        · have c0 : (0 : Int32).toInt = 0 := by decide
          have c1 : (1 : Int32).toInt = 1 := by decide
          have sw := sc.2.2.2.2.2.1 b.toNatClampNeg
          have lt := ok.2.1.2
          rw [mi_lt] at lt
          have okw : 0 ≤ I 25 b.toNatClampNeg ∧ I 25 b.toNatClampNeg < I 1 2 := ⟨by rw [mi_le, c0]; exact sw.1, by rw [mi_lt]; exact bo.2 _ (by omega)⟩
          have ev := qEq hS okw w1 (QM_kp g w2)
          rcases p1 with ⟨y1, e1, i1⟩ | ⟨y1, i1⟩
          · rcases p2 with ⟨y2, e2, i2⟩ | ⟨y2, i2⟩
            · exact ⟨e1.trans e2.symm, ST i1 i2⟩
            · exfalso; omega
          · rcases p2 with ⟨y2, e2, i2⟩ | ⟨y2, i2⟩
            · exfalso; omega
            · obtain ⟨e1, j14, j29, j30, j36, j37⟩ := i1
              obtain ⟨e2, j52, j56, j72⟩ := i2
              have cq := hS.cq sm
              have k2 := mi_cl sc.2.1.1
              have vb := quV_b cq.2.2.1 (le8 sc.2.1 (by omega)) (fun z hz => by have := (cq.1 z hz).1; omega) cq.2.1 (ltW okw).2 (le8 sc.2.2.1 (by omega)) w1
              have sh := bx.2 (I 25 b.toNatClampNeg).toNatClampNeg
              obtain ⟨sh0, sh1⟩ := id sh
              have hc := ok.2.2
              rw [mi_le, c1] at hc
              have st := bd.2.2.2.2 a.toNatClampNeg
              obtain ⟨st0, st1⟩ := id st
              have rm := (sc.2.2.2.2.2.2.1.2.2.1 a.toNatClampNeg).1
              obtain ⟨rm0, rm1⟩ := id rm
              have er : (I 32 a.toNatClampNeg - I 36 a.toNatClampNeg).toInt = (I 32 a.toNatClampNeg).toInt - (I 36 a.toNatClampNeg).toInt := mi_sub (by omega) (by omega)
              rw [mi_lt, er] at m1
              have es : (I 36 a.toNatClampNeg + c).toInt = (I 36 a.toNatClampNeg).toInt + c.toInt := mi_add (by omega) (by omega)
              have e14 : (I 14 (I 25 b.toNatClampNeg).toNatClampNeg + c).toInt = (I 14 (I 25 b.toNatClampNeg).toNatClampNeg).toInt + c.toInt := mi_add (by omega) (by omega)
              refine ⟨by rw [e1, e2, bd.1], kr_load hR f1 f2, (byy.kp (f 2 2 rfl rfl) (f2_fn (c := 24) f rfl (fun _ => rfl)) (f2_fn (c := 65) f rfl (fun _ => rfl))), (bp.kp (f2_fn (c := 13) f rfl (fun _ => rfl)) (f2_fn (c := 51) f rfl (fun _ => rfl))), (be.kp (f 1 9 rfl rfl) (f 12 11 rfl rfl) (f2_fn (c := 15) f rfl (fun _ => rfl)) (f2_fn (c := 16) f rfl (fun _ => rfl)) (f2_fn (c := 17) f rfl (fun _ => rfl)) (f2_fn (c := 18) f rfl (fun _ => rfl)) (f2_fn (c := 19) f rfl (fun _ => rfl)) (f2_fn (c := 58) f rfl (fun _ => rfl)) (f2_fn (c := 59) f rfl (fun _ => rfl)) (f2_fn (c := 60) f rfl (fun _ => rfl)) (f2_fn (c := 61) f rfl (fun _ => rfl)) (f2_fn (c := 62) f rfl (fun _ => rfl))), ⟨by rw [W14, j14, j52], fun j => ?_⟩, KO (by rw [W29, j29, j56]), ⟨by rw [W37, j37, j72, bd.1], fun l hl => ?_, fun s hs => ?_, fun s l h1 h2 h3 => ?_, fun s => ?_⟩⟩
              · rw [W14, j14]
                unfold upd
                by_cases e : j = (I 25 b.toNatClampNeg).toNatClampNeg
                · rw [if_pos e]; exact ⟨by omega, by omega⟩
                · rw [if_neg e]; exact bx.2 j
              · rw [W30, j30, j72, hh_up (by omega) 6 l hl]
                unfold upd
                by_cases e : l = b.toNatClampNeg
                · rw [if_pos e, if_pos ⟨e, by omega⟩, e, bd.2.1 _ (by omega)]
                · rw [if_neg e, if_neg (fun q => e q.1)]; exact bd.2.1 l hl
              · rw [W36, j36, j72, hl_up (by omega) 60 s (by omega)]
                unfold upd
                by_cases e : s = a.toNatClampNeg
                · rw [if_pos e, if_pos ⟨e, by omega⟩, e, bd.2.2.1 _ (by omega)]
                · rw [if_neg e, if_neg (fun q => e q.1)]; exact bd.2.2.1 s hs
              · rw [f 3 6 rfl rfl] at h3
                rw [j72]
                unfold upd
                rw [if_neg (by omega)]
                exact bd.2.2.2.1 s l h1 h2 h3
              · rw [W36, j36]
                unfold upd
                by_cases e : s = a.toNatClampNeg
                · rw [if_pos e]; exact ⟨by omega, by omega⟩
                · rw [if_neg e]; exact bd.2.2.2.2 s
theorem eq_open {a b c r1 r2 : Int32} {I : mv_I} (sc : SC I) (hS : LSx I) (p1 : opR (okq a b c (I 1 2) (I 1 9)) (ofs (I 15) (I 16) (I 19) b a c.toNatClampNeg).1 r1) (p2 : opR (okq a b c (I 12 0) (I 12 11)) (ofs (I 58) (I 59) (I 62) b a c.toNatClampNeg).1 r2) : r1 = r2 := by
  obtain ⟨hR, byy, bp, be, bx, bo, bd⟩ := id hS
  obtain ⟨hw, hn, ht, hb, hk, hs, hl_, hh_, hi, hf⟩ := id hR
  have ew : I 1 2 = I 12 0 := hw
  obtain ⟨e1, e2, e3, e4, e5, e6, e7, e8⟩ := be
  rw [← ew, ← e1, ← e2, ← e3, ← e5] at p2
  rcases p1 with ⟨n1, g1⟩ | ⟨o1, g1⟩
  · rcases p2 with ⟨n2, g2⟩ | ⟨o2, g2⟩
    · exact g1.trans g2.symm
    · exact absurd o2 n1
  · rcases p2 with ⟨n2, g2⟩ | ⟨o2, g2⟩
    · exact absurd o1 n2
    · exact g1.trans g2.symm
theorem eq_told {a b r1 r2 : Int32} {I : mv_I} (sc : SC I) (hS : LSx I) (p1 : tdR (0 ≤ a ∧ a < I 3 6) (tds b (I 25 a.toNatClampNeg) (I 26 a.toNatClampNeg) (I 28 a.toNatClampNeg) (I 29 a.toNatClampNeg) (I 30 a.toNatClampNeg) (I 27 a.toNatClampNeg)) r1) (p2 : tdR (0 ≤ a ∧ a < I 12 4) (tds b (I 53 a.toNatClampNeg) (I 54 a.toNatClampNeg) (I 55 a.toNatClampNeg) (I 56 a.toNatClampNeg) (hh (I 72) a.toNatClampNeg 6) (I 57 a.toNatClampNeg)) r2) : r1 = r2 := by
  obtain ⟨hR, byy, bp, be, bx, bo, bd⟩ := id hS
  obtain ⟨hw, hn, ht, hb, hk, hs, hl_, hh_, hi, hf⟩ := id hR
  obtain ⟨q1, q2, q3, q4, q5⟩ := id hl_
  rw [← q1, ← q2, ← q3, ← q4, ← q5, ← bo.1] at p2
  rcases p1 with ⟨n1, g1⟩ | ⟨o1, g1⟩
  · rcases p2 with ⟨n2, g2⟩ | ⟨o2, g2⟩
    · exact g1.trans g2.symm
    · exact absurd o2 n1
  · rcases p2 with ⟨n2, g2⟩ | ⟨o2, g2⟩
    · exact absurd o1 n2
    · have ha : rg a 0 59 := mg_lt o1 sc.2.2.2.2.1.2
      have ka := mi_cl ha.1
      have a1 := ha.2
      rw [← bd.2.1 a.toNatClampNeg (by omega)] at g2
      exact g1.trans g2.symm
theorem eq_held {a b r1 r2 : Int32} {I : mv_I} (sc : SC I) (hS : LSx I) (p1 : hdR (0 ≤ a ∧ a < I 4 7) (0 ≤ b ∧ b < I 3 6) b (I 36 a.toNatClampNeg) (I 37 (60 * a.toNatClampNeg + b.toNatClampNeg)) r1) (p2 : hdR (0 ≤ a ∧ a < I 12 24) (0 ≤ b ∧ b < I 12 4) b (hl (I 72) a.toNatClampNeg (I 12 4).toNatClampNeg) (I 72 (60 * a.toNatClampNeg + b.toNatClampNeg)) r2) : r1 = r2 := by
  obtain ⟨hR, byy, bp, be, bx, bo, bd⟩ := id hS
  obtain ⟨hw, hn, ht, hb, hk, hs, hl_, hh_, hi, hf⟩ := id hR
  obtain ⟨q1, q2, q3, q4, q5⟩ := id hl_
  obtain ⟨v1, v2, v3, v4, v5, v6⟩ := id hs
  by_cases o : 0 ≤ a ∧ a < I 4 7
  · have ha : rg a 0 5 := mg_lt o sc.2.2.2.2.2.2.1.1.2
    have ka := mi_cl ha.1
    have a1 := ha.2
    rw [hS.hl sc (s := a.toNatClampNeg) (by omega), ← v1, ← q1, ← bd.1] at p2
    rcases p1 with ⟨n1, g1⟩ | ⟨o1, x1, g1⟩ | ⟨o1, x1, y1, g1⟩ | ⟨o1, x1, y1, g1⟩
    · exact absurd o n1
    · rcases p2 with ⟨n2, g2⟩ | ⟨o2, x2, g2⟩ | ⟨o2, x2, y2, g2⟩ | ⟨o2, x2, y2, g2⟩
      · exact absurd o n2
      · exact g1.trans g2.symm
      · exact absurd x1 x2
      · exact absurd x1 x2
    · rcases p2 with ⟨n2, g2⟩ | ⟨o2, x2, g2⟩ | ⟨o2, x2, y2, g2⟩ | ⟨o2, x2, y2, g2⟩
      · exact absurd o n2
      · exact absurd x2 x1
      · exact g1.trans g2.symm
      · exact absurd y2 y1
    · rcases p2 with ⟨n2, g2⟩ | ⟨o2, x2, g2⟩ | ⟨o2, x2, y2, g2⟩ | ⟨o2, x2, y2, g2⟩
      · exact absurd o n2
      · exact absurd x2 x1
      · exact absurd y1 y2
      · exact g1.trans g2.symm
  · rw [← v1] at p2
    rcases p1 with ⟨n1, g1⟩ | ⟨o1, _⟩ | ⟨o1, _⟩ | ⟨o1, _⟩
    · rcases p2 with ⟨n2, g2⟩ | ⟨o2, _⟩ | ⟨o2, _⟩ | ⟨o2, _⟩
      · exact g1.trans g2.symm
      · exact absurd o2 o
      · exact absurd o2 o
      · exact absurd o2 o
    · exact absurd o1 o
    · exact absurd o1 o
    · exact absurd o1 o
theorem eq_grade {a r1 r2 : Int32} {I : mv_I} (sc : SC I) (hS : LSx I) (p1 : grR (0 ≤ a ∧ a < I 4 7) (I 36 a.toNatClampNeg) (gsm (I 37) (I 26) a.toNatClampNeg (I 3 6).toNatClampNeg) r1) (p2 : grM (0 ≤ a ∧ a < I 12 24) (hl (I 72) a.toNatClampNeg (I 12 4).toNatClampNeg) (gsm (I 72) (I 54) a.toNatClampNeg (I 12 4).toNatClampNeg) r2) : r1 = r2 := by
  obtain ⟨hR, byy, bp, be, bx, bo, bd⟩ := id hS
  obtain ⟨hw, hn, ht, hb, hk, hs, hl_, hh_, hi, hf⟩ := id hR
  obtain ⟨q1, q2, q3, q4, q5⟩ := id hl_
  obtain ⟨v1, v2, v3, v4, v5, v6⟩ := id hs
  have c0 : (0 : Int32).toInt = 0 := by decide
  by_cases o : 0 ≤ a ∧ a < I 4 7
  · have ha : rg a 0 5 := mg_lt o sc.2.2.2.2.2.2.1.1.2
    have ka := mi_cl ha.1
    have a1 := ha.2
    rw [hS.hl sc (s := a.toNatClampNeg) (by omega), ← v1, ← q1, ← q3, ← bd.1] at p2
    have st := (bd.2.2.2.2 a.toNatClampNeg).1
    rcases p1 with ⟨n1, g1⟩ | ⟨o1, x1, g1⟩ | ⟨o1, x1, g1⟩
    · exact absurd o n1
    · rcases p2 with ⟨n2, g2⟩ | ⟨o2, x2, g2⟩ | ⟨o2, x2, g2⟩
      · exact absurd o n2
      · exact g1.trans g2.symm
      · exact absurd (mi_eq.mpr (by rw [c0]; omega)) x2
    · rcases p2 with ⟨n2, g2⟩ | ⟨o2, x2, g2⟩ | ⟨o2, x2, g2⟩
      · exact absurd o n2
      · rw [x2] at x1; exact absurd x1 (by decide)
      · exact g1.trans g2.symm
  · rw [← v1] at p2
    rcases p1 with ⟨n1, g1⟩ | ⟨o1, _⟩ | ⟨o1, _⟩
    · rcases p2 with ⟨n2, g2⟩ | ⟨o2, _⟩ | ⟨o2, _⟩
      · exact g1.trans g2.symm
      · exact absurd o2 o
      · exact absurd o2 o
    · exact absurd o1 o
    · exact absurd o1 o
theorem sm1_eq {f g : Nat → Int32} : ∀ n : Nat, (∀ z, z < n → f z = g z) → sm1 f n = sm1 g n
  | 0, _ => rfl
  | n + 1, h => by
    show sm1 f n + f n = sm1 g n + g n
    rw [sm1_eq n (fun z hz => h z (by omega)), h n (by omega)]
theorem eq_count {a : Int32} {I : mv_I} (sc : SC I) (hS : LSx I) : cns a (I 1 2) (I 3 6) (I 1 9) (I 4 7) (I 0 7) (sm1 (I 28) (I 3 6).toNatClampNeg) (sm1 (I 29) (I 3 6).toNatClampNeg) (sm1 (I 30) (I 3 6).toNatClampNeg) = cns a (I 12 0) (I 12 4) (I 12 11) (I 12 24) (I 12 3) (sm1 (cnf a I) (I 12 4).toNatClampNeg) (sm1 (cnf a I) (I 12 4).toNatClampNeg) (sm1 (cnf a I) (I 12 4).toNatClampNeg) := by
  obtain ⟨hR, byy, bp, be, bx, bo, bd⟩ := id hS
  obtain ⟨hw, hn, ht, hb, hk, hs, hl_, hh_, hi, hf⟩ := id hR
  obtain ⟨q1, q2, q3, q4, q5⟩ := id hl_
  obtain ⟨v1, v2, v3, v4, v5, v6⟩ := id hs
  have ew : I 1 2 = I 12 0 := hw
  have en_ : I 0 7 = I 12 3 := hn
  rw [← ew, ← q1, ← be.1, ← v1, ← en_]
  have m60 := le8 (M := 60) sc.2.2.2.2.1 (by omega)
  unfold cns
  by_cases c0 : a = 0
  · rw [if_pos c0, if_pos c0]
  · rw [if_neg c0, if_neg c0]
    by_cases c1 : a = 1
    · rw [if_pos c1, if_pos c1]
    · rw [if_neg c1, if_neg c1]
      by_cases c2 : a = 2
      · rw [if_pos c2, if_pos c2]
      · rw [if_neg c2, if_neg c2]
        by_cases c3 : a = 3
        · rw [if_pos c3, if_pos c3]
        · rw [if_neg c3, if_neg c3]
          by_cases c4 : a = 4
          · rw [if_pos c4, if_pos c4]
          · rw [if_neg c4, if_neg c4]
            by_cases c5 : a = 5
            · rw [if_pos c5, if_pos c5]
              exact sm1_eq _ (fun z hz => by unfold cnf; rw [if_pos c5, q5])
            · rw [if_neg c5, if_neg c5]
              by_cases c6 : a = 6
              · rw [if_pos c6, if_pos c6]
                exact sm1_eq _ (fun z hz => by unfold cnf; rw [if_neg c5, if_pos c6, bo.1])
              · rw [if_neg c6, if_neg c6]
                by_cases c7 : a = 7
                · rw [if_pos c7, if_pos c7]
                  exact sm1_eq _ (fun z hz => by unfold cnf; rw [if_neg c5, if_neg c6, if_pos c7]; exact bd.2.1 z (by omega))
                · rw [if_neg c7, if_neg c7]
theorem LSx.nb {I I1 : mv_I} (hS : LSx I) (g : ∀ k, (k = 12 ∨ 51 ≤ k) → I1 k = I k) : ∀ j, j < (I1 12 20).toNatClampNeg → ¬ I1 65 j = 0 := by
  obtain ⟨hR, byy, bp, be, bx, bo, bd⟩ := id hS
  obtain ⟨hw, hn, ht, hb, hk, hs, hl_, hh_, hi, hf⟩ := id hR
  have hkk : I 2 2 = I 12 20 := hk
  intro j hj e
  rw [g 12 (by decide), ← hkk] at hj
  rw [g 65 (by decide), ← byy.1] at e
  have z := byy.2 j hj
  rw [e] at z
  exact absurd z.1 (by decide)
theorem LSx.lw {I I1 : mv_I} (hS : LSx I) (g : ∀ k, (k = 12 ∨ 51 ≤ k) → I1 k = I k) : ∀ l : Nat, (l : Int) < (I1 12 4).toInt → (I1 53 l).toInt < (I1 12 0).toInt := by
  obtain ⟨hR, byy, bp, be, bx, bo, bd⟩ := id hS
  obtain ⟨hw, hn, ht, hb, hk, hs, hl_, hh_, hi, hf⟩ := id hR
  have ew : I 1 2 = I 12 0 := hw
  obtain ⟨q1, q2, q3, q4, q5⟩ := id hl_
  rw [g 12 (by decide), g 53 (by decide), ← ew, ← q1, ← q2]
  exact bo.2
