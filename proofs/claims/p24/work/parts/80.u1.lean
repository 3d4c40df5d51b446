/-! the calls of the pool, exact -/
def CQm (I : mv_I) : Prop := (∀ z, z < (I 1 2).toNatClampNeg → rg (I 13 z) 1 1000) ∧ (∀ j, rg (I 18 j) 0 100000) ∧ rg (I 1 3) 0 1000000 ∧ (∀ j, rg (I 14 j) 0 30000000)
def MQm (I : mv_I) : Prop := (∀ j, rg (I 61 j) 0 100000) ∧ (∀ j, 0 ≤ (I 62 j).toInt) ∧ (∀ j, rg (I 52 j) 0 30000000)
def quV (k o t m wk pp : Nat → Int32) (T : Int32) (W : Nat) (a w : Int32) (N : Nat) (v : Int) : Prop := ∃ g, QU T.toInt (fun z => (ofs k o wk a (nI z) N).1) (fun z => (pp z).toInt) W g ∧ v = g w.toNatClampNeg + lz k o t m wk a w N
theorem quV_u {k o t t' m wk pp : Nat → Int32} {T : Int32} {W : Nat} {a w : Int32} {N : Nat} {v v' : Int} (ht : ∀ j, k j = 0 → t j = t' j) (hw : w.toNatClampNeg < W) (h1 : quV k o t m wk pp T W a w N v) (h2 : quV k o t' m wk pp T W a w N v') : v = v' := by
  obtain ⟨g, q1, e1⟩ := h1
  obtain ⟨g', q2, e2⟩ := h2
  rw [e1, e2, QU_u q1 q2 _ hw, lz_t ht]
theorem quV_b {k o t m wk pp : Nat → Int32} {T : Int32} {W : Nat} {a w : Int32} {N : Nat} {v : Int} (hT : rg T 0 1000000) (hW : W ≤ 8) (hp : ∀ z, z < W → 0 ≤ (pp z).toInt) (hm : ∀ j, rg (m j) 0 100000) (hw : w.toNatClampNeg < W) (hN : N ≤ 100) (h : quV k o t m wk pp T W a w N v) : -10000000 ≤ v ∧ v ≤ 20000000 := by
  obtain ⟨g, q1, e1⟩ := h
  have b1 := QU_b hT hW hp q1 _ hw
  have b2 := lz_b (k := k) (o := o) (t := t) (wk := wk) (a := a) (w := w) hm N
  exact ⟨by omega, by omega⟩
abbrev QC (I : mv_I) (a w : Int32) (N : Nat) (v : Int) : Prop := quV (I 15) (I 16) (I 17) (I 18) (I 19) (I 13) (I 1 3) (I 1 2).toNatClampNeg a w N v
abbrev QM (I : mv_I) (a w : Int32) (N : Nat) (v : Int) : Prop := quV (I 58) (I 59) (I 60) (I 61) (I 62) (I 51) (I 12 10) (I 12 0).toNatClampNeg a w N v
theorem ltW {w n : Int32} (h : 0 ≤ w ∧ w < n) : 0 ≤ w.toInt ∧ w.toNatClampNeg < n.toNatClampNeg := by
  have c0 : (0 : Int32).toInt = 0 := by decide
  rw [mi_le, mi_lt, c0] at h
  have k1 := mi_cl h.1
  have k2 := mi_cl (x := n) (by omega)
  exact ⟨h.1, by omega⟩
theorem le8 {n : Int32} {m : Int} {M : Nat} (h : rg n 0 m) (hm : m ≤ M) : n.toNatClampNeg ≤ M := by
  have k := mi_cl h.1
  have := h.2
  omega
theorem e_qc {d : Nat} (hd : 4 ≤ d) (w a n : Int32) {I : mv_I} {J : mv_J} {Q : mv_Q} (sc : SC I) (cq : CQm I) (hw : 0 ≤ w ∧ w < I 1 2) (hn : rg n 0 100) (h : ∀ (r : Int32) (I' : mv_I), mg_fr [20, 21, 22] I I' → QC I a w n.toNatClampNeg r.toInt → Q (some (.inl r)) I' J) : mv_wpM mv_tab mv_sh d 30 [.inr (.inr 1), .inl w, .inl a, .inl n] I J Q := by
  have s2 := sc.2.1
  obtain ⟨w0, w1⟩ := ltW hw
  exact e_quota (W := (I 1 2).toNatClampNeg) (N := n.toNatClampNeg) (v := w.toNatClampNeg) (p := fun z => (I 13 z).toInt) hd w a n (le8 s2 (by omega)) (mi_nI s2.1).symm (fun z hz => ⟨rfl, (cq.1 z hz).1, (cq.1 z hz).2⟩) (le8 hn (by omega)) (mi_nI hn.1).symm cq.2.1 cq.2.2.1 w1 (mi_nI w0).symm (fun r I' g f q e => h r I' f ⟨g, q, e⟩)
theorem e_uc {d : Nat} (hd : 5 ≤ d) (w a : Int32) {I : mv_I} {J : mv_J} {Q : mv_Q} (sc : SC I) (cq : CQm I) (hw : 0 ≤ w ∧ w < I 1 2) (h : ∀ (r : Int32) (I' : mv_I), mg_fr [20, 21, 22] I I' → (∃ v, QC I a w (I 1 9).toNatClampNeg v ∧ r.toInt = v - (I 14 w.toNatClampNeg).toInt) → Q (some (.inl r)) I' J) : mv_wpM mv_tab mv_sh d 31 [.inr (.inr 1), .inl w, .inl a] I J Q := by
  have s2 := sc.2.1
  have s3 := sc.2.2.1
  obtain ⟨w0, w1⟩ := ltW hw
  exact e_unsh (W := (I 1 2).toNatClampNeg) (N := (I 1 9).toNatClampNeg) (v := w.toNatClampNeg) (p := fun z => (I 13 z).toInt) hd w a (le8 s2 (by omega)) (mi_nI s2.1).symm (fun z hz => ⟨rfl, (cq.1 z hz).1, (cq.1 z hz).2⟩) (le8 s3 (by omega)) (mi_nI s3.1).symm cq.2.1 cq.2.2.1 w1 (mi_nI w0).symm (fun r I' g f q e => h r I' f ⟨_, ⟨g, q, rfl⟩, e⟩) (cq.2.2.2 _)
theorem e_rq {d : Nat} (hd : 2 ≤ d) (a n : Int32) {I : mv_I} {J : mv_J} {Q : mv_Q} (sm : SM I) (mq : MQm I) (hn : rg n 0 100) (h : ∀ (I' : mv_I) (J' : mv_J), mg_f2 [64] [] I I' → (∀ w : Int32, 0 ≤ w ∧ w < I 12 0 → QM I a w n.toNatClampNeg (J' 63 w.toNatClampNeg).toInt) → Q none I' J') : mv_wpM mv_tab mv_sh d 92 [.inr (.inr 12), .inl a, .inl n] I J Q := by
  obtain ⟨t1, t2, t3, t4, t5, t6, t7, t8, t9, t10⟩ := id sm
  have k2 := mi_cl t2.1
  refine e_rquotas (W := (I 12 0).toNatClampNeg) (N := n.toNatClampNeg) (p := fun z => (I 51 z).toInt) hd a n (le8 t2 (by omega)) (mi_nI t2.1).symm (fun z hz => ⟨rfl, (t10.1 z (by omega)).1, (t10.1 z (by omega)).2⟩) (le8 hn (by omega)) (mi_nI hn.1).symm mq.2.1 mq.1 t9 t10.2 (fun I' J' g f q e => h I' J' f (fun w hw => ?_))
  obtain ⟨w0, w1⟩ := ltW hw
  have e := e w.toNatClampNeg w1
  rw [mi_nI w0] at e
  exact ⟨g, q, e⟩
theorem mi_Li {x : Int64} (h1 : -2147483648 ≤ x.toInt) (h2 : x.toInt ≤ 2147483647) : x.toInt32.toInt = x.toInt := by
  rw [Int64.toInt_toInt32]
  exact Int.bmod_eq_of_le (by omega) (by omega)
theorem lw_iff {a n : Int32} (hn : 0 ≤ n.toInt) : (0 ≤ a ∧ a ≤ n - 1) ↔ (0 ≤ a ∧ a < n) := by
  have c0 : (0 : Int32).toInt = 0 := by decide
  have c1 : (1 : Int32).toInt = 1 := by decide
  have hm := mi_max n
  have e : (n - 1).toInt = n.toInt - 1 := by rw [mi_sub (by omega) (by omega), c1]
  rw [mi_le, mi_le, mi_lt, e, c0]
  exact ⟨fun z => ⟨z.1, by omega⟩, fun z => ⟨z.1, by omega⟩⟩
def okq (a b c W N : Int32) : Prop := (0 ≤ a ∧ a < W) ∧ (0 ≤ b ∧ b ≤ 51) ∧ (0 ≤ c ∧ c ≤ N)
def opR (ok : Prop) (o : Bool) (r : Int32) : Prop := (¬ ok ∧ r = -1) ∨ (ok ∧ r = if o = true then 1 else 0)
theorem cN {c n : Int32} (hn : rg n 0 100) (p : 0 ≤ c ∧ c ≤ n) : rg c 0 100 := ⟨(mg_le p).1, Int.le_trans (mg_le p).2 hn.2⟩
set_option maxHeartbeats 1000000 in
theorem E_open {d : Nat} (hd : 5 ≤ d) (a b c : Int32) {I : mv_I} {J : mv_J} {Q : mv_Q} (sc : SC I) (h : ∀ (r : Int32), opR (okq a b c (I 1 2) (I 1 9)) (ofs (I 15) (I 16) (I 19) b a c.toNatClampNeg).1 r → Q (some (.inl r)) I J) : mv_wpM mv_tab mv_sh d 57 [.inr (.inr 0), .inl a, .inl b, .inl c] I J Q := by
  obtain ⟨d, rfl⟩ : ∃ e, d = e + 1 := ⟨d - 1, by omega⟩
  refine (show ∃ fu9, mv_wp (mv_wpM mv_tab mv_sh d) mv_sh none tbX7_open flX7 csX7 1 (fun _ _ _ _ _ => False) Q fu9 0 [some (.inr (.inr 0)), some (.inl a), some (.inl b), some (.inl c)] [] I J from ?_)
  refine ⟨60, ?_⟩
  obtain ⟨s1, s2, s3, s4, s5, s6, s7, s8, s9, s10, s11, s12⟩ := id sc
  refine c_isAsked (by omega) a b c (fun p => ?_) (fun p => ?_)
  · first | refine And.intro (fun z => absurd z (by decide)) (fun _ => ?_) | refine And.intro (fun _ => ?_) (fun z => absurd z (by decide))
    have hn := cN s3 p.2.2
    refine e_open (N := c.toNatClampNeg) (by omega) a b c (le8 hn (by omega)) (mi_nI hn.1).symm ?_
    cases hb : (ofs (I 15) (I 16) (I 19) b a c.toNatClampNeg).1 with
    | true =>
      rw [if_pos rfl]
      refine And.intro (fun q => absurd q (by decide)) (fun _ => ?_)
      exact h _ (Or.inr ⟨p, by rw [hb]; rfl⟩)
    | false =>
      rw [if_neg (by decide)]
      refine And.intro (fun _ => ?_) (fun q => absurd rfl q)
      exact h _ (Or.inr ⟨p, by rw [hb]; rfl⟩)
  · first | refine And.intro (fun z => absurd z (by decide)) (fun _ => ?_) | refine And.intro (fun _ => ?_) (fun z => absurd z (by decide))
    exact h _ (Or.inl ⟨p, rfl⟩)
set_option maxHeartbeats 1000000 in
theorem E2_open {d : Nat} (hd : 5 ≤ d) (a b c : Int32) {I : mv_I} {J : mv_J} {Q : mv_Q} (sm : SM I) (mq : MQm I) (h : ∀ (r : Int32), opR (okq a b c (I 12 0) (I 12 11)) (ofs (I 58) (I 59) (I 62) b a c.toNatClampNeg).1 r → Q (some (.inl r)) I J) : mv_wpM mv_tab mv_sh d 96 [.inr (.inr 12), .inl a, .inl b, .inl c] I J Q := by
  obtain ⟨d, rfl⟩ : ∃ e, d = e + 1 := ⟨d - 1, by omega⟩
  refine (show ∃ fu9, mv_wp (mv_wpM mv_tab mv_sh d) mv_sh none tbX8_open flX8 csX8 1 (fun _ _ _ _ _ => False) Q fu9 0 [some (.inr (.inr 12)), some (.inl a), some (.inl b), some (.inl c)] [] I J from ?_)
  refine ⟨60, ?_⟩
  obtain ⟨t1, t2, t3, t4, t5, t6, t7, t8, t9, t10⟩ := id sm
  refine c8_isAsOf (by omega) a b c (fun p => ?_) (fun p => ?_)
  · first | refine And.intro (fun z => absurd z (by decide)) (fun _ => ?_) | refine And.intro (fun _ => ?_) (fun z => absurd z (by decide))
    have hn := cN t3 p.2.2
    have ok : okq a b c (I 12 0) (I 12 11) := ⟨(lw_iff t2.1).mp p.1, p.2⟩
    refine e_ropen (N := c.toNatClampNeg) (by omega) a b c (le8 hn (by omega)) (mi_nI hn.1).symm mq.2.1 ?_
    cases hb : (ofs (I 58) (I 59) (I 62) b a c.toNatClampNeg).1 with
    | true =>
      rw [if_pos rfl]
      refine And.intro (fun q => absurd q (by decide)) (fun _ => ?_)
      exact h _ (Or.inr ⟨ok, by rw [hb]; rfl⟩)
    | false =>
      rw [if_neg (by decide)]
      refine And.intro (fun _ => ?_) (fun q => absurd rfl q)
      exact h _ (Or.inr ⟨ok, by rw [hb]; rfl⟩)
  · first | refine And.intro (fun z => absurd z (by decide)) (fun _ => ?_) | refine And.intro (fun _ => ?_) (fun z => absurd z (by decide))
    exact h _ (Or.inl ⟨fun z => p ⟨(lw_iff t2.1).mpr z.1, z.2⟩, rfl⟩)
def qoR (ok : Prop) (V : Int → Prop) (r : Int32) : Prop := (¬ ok ∧ r = -10000001) ∨ (ok ∧ V r.toInt)
set_option maxHeartbeats 1000000 in
theorem E_quota {d : Nat} (hd : 6 ≤ d) (a b c : Int32) {I : mv_I} {J : mv_J} {Q : mv_Q} (sc : SC I) (cq : CQm I) (h : ∀ (r : Int32) (I' : mv_I), qoR (okq a b c (I 1 2) (I 1 9)) (QC I b a c.toNatClampNeg) r → Q (some (.inl r)) I' J) : mv_wpM mv_tab mv_sh d 58 [.inr (.inr 0), .inl a, .inl b, .inl c] I J Q := by
  obtain ⟨d, rfl⟩ : ∃ e, d = e + 1 := ⟨d - 1, by omega⟩
  refine (show ∃ fu9, mv_wp (mv_wpM mv_tab mv_sh d) mv_sh none tbX7_quota flX7 csX7 1 (fun _ _ _ _ _ => False) Q fu9 0 [some (.inr (.inr 0)), some (.inl a), some (.inl b), some (.inl c)] [] I J from ?_)
  refine ⟨60, ?_⟩
  obtain ⟨s1, s2, s3, s4, s5, s6, s7, s8, s9, s10, s11, s12⟩ := id sc
  refine c_isAsked (by omega) a b c (fun p => ?_) (fun p => ?_)
  · first | refine And.intro (fun z => absurd z (by decide)) (fun _ => ?_) | refine And.intro (fun _ => ?_) (fun z => absurd z (by decide))
    refine e_qc (by omega) a b c sc cq p.1 (cN s3 p.2.2) (fun r I2 f2 q => ?_)
    exact h _ _ (Or.inr ⟨p, q⟩)
  · first | refine And.intro (fun z => absurd z (by decide)) (fun _ => ?_) | refine And.intro (fun _ => ?_) (fun z => absurd z (by decide))
    exact h _ _ (Or.inl ⟨p, rfl⟩)
set_option maxHeartbeats 1000000 in
theorem E2_quota {d : Nat} (hd : 4 ≤ d) (a b c : Int32) {I : mv_I} {J : mv_J} {Q : mv_Q} (sm : SM I) (mq : MQm I) (h : ∀ (r : Int32) (I' : mv_I) (J' : mv_J), qoR (okq a b c (I 12 0) (I 12 11)) (QM I b a c.toNatClampNeg) r → Q (some (.inl r)) I' J') : mv_wpM mv_tab mv_sh d 97 [.inr (.inr 12), .inl a, .inl b, .inl c] I J Q := by
  obtain ⟨d, rfl⟩ : ∃ e, d = e + 1 := ⟨d - 1, by omega⟩
  refine (show ∃ fu9, mv_wp (mv_wpM mv_tab mv_sh d) mv_sh none tbX8_quota flX8 csX8 1 (fun _ _ _ _ _ => False) Q fu9 0 [some (.inr (.inr 12)), some (.inl a), some (.inl b), some (.inl c)] [] I J from ?_)
  refine ⟨60, ?_⟩
  obtain ⟨t1, t2, t3, t4, t5, t6, t7, t8, t9, t10⟩ := id sm
  refine c8_isAsOf (by omega) a b c (fun p => ?_) (fun p => ?_)
  · first | refine And.intro (fun z => absurd z (by decide)) (fun _ => ?_) | refine And.intro (fun _ => ?_) (fun z => absurd z (by decide))
    have hn := cN t3 p.2.2
    have ok : okq a b c (I 12 0) (I 12 11) := ⟨(lw_iff t2.1).mp p.1, p.2⟩
    have ha : rg a 0 7 := (mr_lt t2.1 p.1 t2.2).1
    have B : vp_in a 8 := vp_in_iff.mpr ⟨ha.1, by have := ha.2; omega⟩
    refine e_rq (by omega) _ _ sm mq hn (fun I2 J2 f2 e => ?_)
    refine And.intro B (h _ _ _ (Or.inr ⟨ok, ?_⟩))
    have q := e a ok.1
    have k2 := mi_cl t2.1
    have b1 := quV_b t10.2 (le8 t2 (by omega)) (fun z hz => by have := (t10.1 z (by omega)).1; omega) mq.1 (ltW ok.1).2 (le8 hn (by omega)) q
    rw [mi_Li (by omega) (by omega)]
    exact q
  · first | refine And.intro (fun z => absurd z (by decide)) (fun _ => ?_) | refine And.intro (fun _ => ?_) (fun z => absurd z (by decide))
    exact h _ _ _ (Or.inl ⟨fun z => p ⟨(lw_iff t2.1).mpr z.1, z.2⟩, rfl⟩)
def lfR (ok : Prop) (V : Int → Prop) (s : Int) (r : Int32) : Prop := (¬ ok ∧ r = -1) ∨ (ok ∧ ∃ v, V v ∧ r.toInt = if 0 < v - s then v - s else 0)
theorem mx0 {r : Int32} {u : Int} (e : r.toInt = u) : (if (0 : Int32) < r then r else 0).toInt = if 0 < u then u else 0 := by
  have c0 : (0 : Int32).toInt = 0 := by decide
  by_cases h : (0 : Int32) < r
  · have h2 := h
    rw [mi_lt, c0, e] at h2
    rw [if_pos h, if_pos h2, e]
  · have h2 := h
    rw [mi_lt, c0, e] at h2
    rw [if_neg h, if_neg h2, c0]
set_option maxHeartbeats 1000000 in
theorem E_left {d : Nat} (hd : 7 ≤ d) (a : Int32) {I : mv_I} {J : mv_J} {Q : mv_Q} (sc : SC I) (cq : CQm I) (h : ∀ (r : Int32) (I' : mv_I), lfR (0 ≤ a ∧ a < I 1 2) (QC I (I 0 7) a (I 1 9).toNatClampNeg) (I 14 a.toNatClampNeg).toInt r → Q (some (.inl r)) I' J) : mv_wpM mv_tab mv_sh d 59 [.inr (.inr 0), .inl a] I J Q := by
  obtain ⟨d, rfl⟩ : ∃ e, d = e + 1 := ⟨d - 1, by omega⟩
  refine (show ∃ fu9, mv_wp (mv_wpM mv_tab mv_sh d) mv_sh none tbX7_left flX7 csX7 1 (fun _ _ _ _ _ => False) Q fu9 0 [some (.inr (.inr 0)), some (.inl a)] [] I J from ?_)
  refine ⟨60, ?_⟩
  obtain ⟨s1, s2, s3, s4, s5, s6, s7, s8, s9, s10, s11, s12⟩ := id sc
  refine c_hasWorks (by omega) a (fun p1 => ?_) (fun p1 => ?_)
  · first | refine And.intro (fun z => absurd z (by decide)) (fun _ => ?_) | refine And.intro (fun _ => ?_) (fun z => absurd z (by decide))
    refine e_uc (by omega) a _ sc cq p1 (fun r I2 f2 q => ?_)
    obtain ⟨v, q, e⟩ := q
    exact h _ _ (Or.inr ⟨p1, v, q, mx0 e⟩)
  · first | refine And.intro (fun z => absurd z (by decide)) (fun _ => ?_) | refine And.intro (fun _ => ?_) (fun z => absurd z (by decide))
    exact h _ _ (Or.inl ⟨p1, rfl⟩)
set_option maxHeartbeats 1000000 in
theorem e_lo {d : Nat} (hd : 3 ≤ d) (a : Int32) {I : mv_I} {J : mv_J} {Q : mv_Q} (sm : SM I) (mq : MQm I) (ha : 0 ≤ a ∧ a < I 12 0) (h : ∀ (r : Int32) (I' : mv_I) (J' : mv_J), mg_f2 [64] [] I I' → (∃ v, QM I (I 12 3) a (I 12 11).toNatClampNeg v ∧ r.toInt = if 0 < v - (I 52 a.toNatClampNeg).toInt then v - (I 52 a.toNatClampNeg).toInt else 0) → Q (some (.inl r)) I' J') : mv_wpM mv_tab mv_sh d 98 [.inr (.inr 12), .inl a] I J Q := by
  obtain ⟨d, rfl⟩ : ∃ e, d = e + 1 := ⟨d - 1, by omega⟩
  refine (show ∃ fu9, mv_wp (mv_wpM mv_tab mv_sh d) mv_sh none tbX8_leftOf flX8 csX8 1 (fun _ _ _ _ _ => False) Q fu9 0 [some (.inr (.inr 12)), some (.inl a), none, none] [] I J from ?_)
  refine ⟨60, ?_⟩
  obtain ⟨t1, t2, t3, t4, t5, t6, t7, t8, t9, t10⟩ := id sm
  obtain ⟨w0, w1⟩ := ltW ha
  have k1 := mi_cl w0
  have k2 := mi_cl t2.1
  have t22 := t2.2
  have B : vp_in a 8 := vp_in_iff.mpr ⟨w0, by omega⟩
  refine e_rq (by omega) _ _ sm mq t3 (fun I2 J2 f2 e => ?_)
  have q := e a ha
  have b1 := quV_b t10.2 (le8 t2 (by omega)) (fun z hz => by have := (t10.1 z (by omega)).1; omega) mq.1 w1 (le8 t3 (by omega)) q
  obtain ⟨b3, b4⟩ := mq.2.2 a.toNatClampNeg
  have e52 : I2 52 = I 52 := f2_fn f2 rfl (fun _ => rfl)
  have c0 : (0 : Int64).toInt = 0 := by decide
  have el : (J2 63 a.toNatClampNeg - (I2 52 a.toNatClampNeg).toInt64).toInt = (J2 63 a.toNatClampNeg).toInt - (I 52 a.toNatClampNeg).toInt := by rw [e52, mi_Lsub (by rw [mi_L]; omega) (by rw [mi_L]; omega), mi_L]
  refine And.intro B ?_
  refine And.intro B ?_
  refine And.intro (fun q1 => ?_) (fun q1 => ?_)
  · have q2 := mi_Lle.mp ((lg_cmp_ge _ _).mp q1)
    rw [c0, el] at q2
    refine h _ _ _ f2 ⟨_, q, ?_⟩
    rw [mi_Li (by rw [el]; omega) (by rw [el]; omega), el]
    by_cases z : 0 < (J2 63 a.toNatClampNeg).toInt - (I 52 a.toNatClampNeg).toInt
    · rw [if_pos z]
    · rw [if_neg z]; omega
  · have q2 : ¬ (0 : Int64) ≤ (J2 63 a.toNatClampNeg - (I2 52 a.toNatClampNeg).toInt64) := fun z => q1 ((lg_cmp_ge _ _).mpr z)
    rw [mi_Lle, c0, el] at q2
    refine h _ _ _ f2 ⟨_, q, ?_⟩
    rw [if_neg (by omega)]
    decide
set_option maxHeartbeats 1000000 in
theorem E2_left {d : Nat} (hd : 4 ≤ d) (a : Int32) {I : mv_I} {J : mv_J} {Q : mv_Q} (sm : SM I) (mq : MQm I) (h : ∀ (r : Int32) (I' : mv_I) (J' : mv_J), lfR (0 ≤ a ∧ a < I 12 0) (QM I (I 12 3) a (I 12 11).toNatClampNeg) (I 52 a.toNatClampNeg).toInt r → Q (some (.inl r)) I' J') : mv_wpM mv_tab mv_sh d 99 [.inr (.inr 12), .inl a] I J Q := by
  obtain ⟨d, rfl⟩ : ∃ e, d = e + 1 := ⟨d - 1, by omega⟩
  refine (show ∃ fu9, mv_wp (mv_wpM mv_tab mv_sh d) mv_sh none tbX8_left flX8 csX8 1 (fun _ _ _ _ _ => False) Q fu9 0 [some (.inr (.inr 12)), some (.inl a)] [] I J from ?_)
  refine ⟨60, ?_⟩
  obtain ⟨t1, t2, t3, t4, t5, t6, t7, t8, t9, t10⟩ := id sm
  refine c8_isWorks (by omega) a (fun p1 => ?_) (fun p1 => ?_)
  · first | refine And.intro (fun z => absurd z (by decide)) (fun _ => ?_) | refine And.intro (fun _ => ?_) (fun z => absurd z (by decide))
    have ok := (lw_iff t2.1).mp p1
    exact e_lo (by omega) a sm mq ok (fun r I2 J2 f q => h _ _ _ (Or.inr ⟨ok, q⟩))
  · first | refine And.intro (fun z => absurd z (by decide)) (fun _ => ?_) | refine And.intro (fun _ => ?_) (fun z => absurd z (by decide))
    exact h _ _ _ (Or.inl ⟨fun z => p1 ((lw_iff t2.1).mpr z), rfl⟩)
def enS (I I' : mv_I) : Prop := I' 1 9 = I 1 9 ∧ I' 15 = I 15 ∧ I' 16 = I 16 ∧ I' 17 = I 17 ∧ I' 18 = I 18 ∧ I' 19 = I 19
def en (I : mv_I) (r : Int32) (I' : mv_I) (c a b n f : Int32) : Prop := ((I 1 9).toInt = 100 ∧ r = -3 ∧ enS I I') ∨ ((I 1 9).toInt < 100 ∧ r = I 1 9 + 1 - 1 ∧ I' 1 9 = I 1 9 + 1 ∧ I' 15 = upd (I 15) (I 1 9).toNatClampNeg c ∧ I' 16 = upd (I 16) (I 1 9).toNatClampNeg a ∧ I' 17 = upd (I 17) (I 1 9).toNatClampNeg b ∧ I' 18 = upd (I 18) (I 1 9).toNatClampNeg n ∧ I' 19 = upd (I 19) (I 1 9).toNatClampNeg f)
theorem en.kp {I I2 : mv_I} {r : Int32} {I' : mv_I} {c a b n f : Int32} (h : en I2 r I' c a b n f) (e0 : I2 1 9 = I 1 9) (e1 : I2 15 = I 15) (e2 : I2 16 = I 16) (e3 : I2 17 = I 17) (e4 : I2 18 = I 18) (e5 : I2 19 = I 19) : en I r I' c a b n f := by
  unfold en enS at *
  rw [e0, e1, e2, e3, e4, e5] at h
  exact h
def en2S (I I' : mv_I) : Prop := I' 12 11 = I 12 11 ∧ I' 58 = I 58 ∧ I' 59 = I 59 ∧ I' 60 = I 60 ∧ I' 61 = I 61 ∧ I' 62 = I 62
def en2 (I : mv_I) (r : Int32) (I' : mv_I) (c a b n f : Int32) : Prop := ((I 12 11).toInt = 100 ∧ r = -3 ∧ en2S I I') ∨ ((I 12 11).toInt < 100 ∧ r = I 12 11 + 1 - 1 ∧ I' 12 11 = I 12 11 + 1 ∧ I' 58 = upd (I 58) (I 12 11).toNatClampNeg c ∧ I' 59 = upd (I 59) (I 12 11).toNatClampNeg a ∧ I' 60 = upd (I 60) (I 12 11).toNatClampNeg b ∧ I' 61 = upd (I 61) (I 12 11).toNatClampNeg n ∧ I' 62 = upd (I 62) (I 12 11).toNatClampNeg f)
theorem en2.kp {I I2 : mv_I} {r : Int32} {I' : mv_I} {c a b n f : Int32} (h : en2 I2 r I' c a b n f) (e0 : I2 12 11 = I 12 11) (e1 : I2 58 = I 58) (e2 : I2 59 = I 59) (e3 : I2 60 = I 60) (e4 : I2 61 = I 61) (e5 : I2 62 = I 62) : en2 I r I' c a b n f := by
  unfold en2 en2S at *
  rw [e0, e1, e2, e3, e4, e5] at h
  exact h
set_option maxHeartbeats 1000000 in
theorem e_add {d : Nat} (hd : 1 ≤ d) (c a b n f : Int32) {I : mv_I} {J : mv_J} {Q : mv_Q} (he : rg (I 1 9) 0 100) (h : ∀ (r : Int32) (I' : mv_I), en I r I' c a b n f → Q (some (.inl r)) I' J) : mv_wpM mv_tab mv_sh d 23 [.inr (.inr 1), .inl c, .inl a, .inl b, .inl n, .inl f] I J Q := by
  obtain ⟨d, rfl⟩ : ∃ e, d = e + 1 := ⟨d - 1, by omega⟩
  refine (show ∃ fu9, mv_wp (mv_wpM mv_tab mv_sh d) mv_sh none tbX3_addEntry flX3 csX3 1 (fun _ _ _ _ _ => False) Q fu9 0 [some (.inr (.inr 1)), some (.inl c), some (.inl a), some (.inl b), some (.inl n), some (.inl f)] [] I J from ?_)
  refine ⟨60, ?_⟩
  obtain ⟨n0, n1⟩ := id he
  have ck : (100 : Int32).toInt = 100 := by decide
  refine And.intro (fun q => ?_) (fun q => ?_)
  · have qx : (I 1 9).toInt < 100 := by (try simp only [mi_le, mi_lt, mi_eq] at *); have := mi_l; omega
    have B : vp_in (I 1 9) 100 := vp_in_iff.mpr ⟨by omega, by omega⟩
    refine And.intro B ?_
    refine And.intro B ?_
    refine And.intro B ?_
    refine And.intro B ?_
    refine And.intro B ?_
    exact h _ _ (Or.inr ⟨qx, rfl, rfl, rfl, rfl, rfl, rfl, rfl⟩)
  · exact h _ _ (Or.inl ⟨by (try simp only [mi_le, mi_lt, mi_eq] at *); have := mi_l; omega, rfl, rfl, rfl, rfl, rfl, rfl, rfl⟩)
set_option maxHeartbeats 1000000 in
theorem e_radd {d : Nat} (hd : 1 ≤ d) (c a b n f : Int32) {I : mv_I} {J : mv_J} {Q : mv_Q} (he : rg (I 12 11) 0 100) (h : ∀ (r : Int32) (I' : mv_I), en2 I r I' c a b n f → Q (some (.inl r)) I' J) : mv_wpM mv_tab mv_sh d 89 [.inr (.inr 12), .inl c, .inl a, .inl b, .inl n, .inl f] I J Q := by
  obtain ⟨d, rfl⟩ : ∃ e, d = e + 1 := ⟨d - 1, by omega⟩
  refine (show ∃ fu9, mv_wp (mv_wpM mv_tab mv_sh d) mv_sh none tbX8_entry flX8 csX8 1 (fun _ _ _ _ _ => False) Q fu9 0 [some (.inr (.inr 12)), some (.inl c), some (.inl a), some (.inl b), some (.inl n), some (.inl f)] [] I J from ?_)
  refine ⟨80, ?_⟩
  obtain ⟨n0, n1⟩ := id he
  refine And.intro (fun q => ?_) (fun q => ?_)
  · have q : (I 12 11).toInt < 100 := by
      have z : ¬ (I 12 11).toInt = 100 := fun z => q (mi_eq.mpr (z.trans (by decide)))
      omega
    have B : vp_in (I 12 11) 100 := vp_in_iff.mpr ⟨by omega, by omega⟩
    refine And.intro B ?_
    refine And.intro B ?_
    refine And.intro B ?_
    refine And.intro B ?_
    refine And.intro B ?_
    exact h _ _ (Or.inr ⟨q, rfl, rfl, rfl, rfl, rfl, rfl, rfl⟩)
  · exact h _ _ (Or.inl ⟨by rw [q]; decide, rfl, rfl, rfl, rfl, rfl, rfl, rfl⟩)
def oks (a c W : Int32) : Prop := (0 ≤ a ∧ a < W) ∧ (0 ≤ c ∧ c ≤ 51)
def knd (b : Int32) : Int32 := if b = 0 then 2 else 1
set_option maxHeartbeats 1000000 in
theorem E_shut {d : Nat} (hd : 4 ≤ d) (a b c : Int32) {I : mv_I} {J : mv_J} {Q : mv_Q} (sc : SC I) (h : ∀ (r : Int32) (I' : mv_I), ((¬ oks a c (I 1 2) ∧ r = -1 ∧ enS I I') ∨ (oks a c (I 1 2) ∧ en I r I' (knd b) a a 0 c)) → Q (some (.inl r)) I' J) : mv_wpM mv_tab mv_sh d 55 [.inr (.inr 0), .inl a, .inl b, .inl c] I J Q := by
  obtain ⟨d, rfl⟩ : ∃ e, d = e + 1 := ⟨d - 1, by omega⟩
  refine (show ∃ fu9, mv_wp (mv_wpM mv_tab mv_sh d) mv_sh none tbX7_shut flX7 csX7 1 (fun _ _ _ _ _ => False) Q fu9 0 [some (.inr (.inr 0)), some (.inl a), some (.inl b), some (.inl c)] [] I J from ?_)
  refine ⟨80, ?_⟩
  obtain ⟨s1, s2, s3, s4, s5, s6, s7, s8, s9, s10, s11, s12⟩ := id sc
  refine c_hasWorks (by omega) a (fun p1 => ?_) (fun p1 => ?_)
  · first | refine And.intro (fun z => absurd z (by decide)) (fun _ => ?_) | refine And.intro (fun _ => ?_) (fun z => absurd z (by decide))
    refine c_isWeek (by omega) c (fun p2 => ?_) (fun p2 => ?_)
    · first | refine And.intro (fun z => absurd z (by decide)) (fun _ => ?_) | refine And.intro (fun _ => ?_) (fun z => absurd z (by decide))
      refine And.intro (fun q1 => ?_) (fun q1 => ?_)
      · exact e_add (by omega) _ _ _ _ _ s3 (fun r I4 f => h _ _ (Or.inr ⟨⟨p1, p2⟩, by rw [show knd b = 2 from if_pos q1]; exact f⟩))
      · exact e_add (by omega) _ _ _ _ _ s3 (fun r I4 f => h _ _ (Or.inr ⟨⟨p1, p2⟩, by rw [show knd b = 1 from if_neg q1]; exact f⟩))
    · first | refine And.intro (fun z => absurd z (by decide)) (fun _ => ?_) | refine And.intro (fun _ => ?_) (fun z => absurd z (by decide))
      exact h _ _ (Or.inl ⟨fun z => p2 z.2, rfl, rfl, rfl, rfl, rfl, rfl, rfl⟩)
  · first | refine And.intro (fun z => absurd z (by decide)) (fun _ => ?_) | refine And.intro (fun _ => ?_) (fun z => absurd z (by decide))
    exact h _ _ (Or.inl ⟨fun z => p1 z.1, rfl, rfl, rfl, rfl, rfl, rfl, rfl⟩)
set_option maxHeartbeats 1000000 in
theorem E2_shut {d : Nat} (hd : 4 ≤ d) (a b c : Int32) {I : mv_I} {J : mv_J} {Q : mv_Q} (sm : SM I) (h : ∀ (r : Int32) (I' : mv_I), ((¬ oks a c (I 12 0) ∧ r = -1 ∧ en2S I I') ∨ (oks a c (I 12 0) ∧ en2 I r I' (knd b) a 0 0 c)) → Q (some (.inl r)) I' J) : mv_wpM mv_tab mv_sh d 94 [.inr (.inr 12), .inl a, .inl b, .inl c] I J Q := by
  obtain ⟨d, rfl⟩ : ∃ e, d = e + 1 := ⟨d - 1, by omega⟩
  refine (show ∃ fu9, mv_wp (mv_wpM mv_tab mv_sh d) mv_sh none tbX8_shut flX8 csX8 1 (fun _ _ _ _ _ => False) Q fu9 0 [some (.inr (.inr 12)), some (.inl a), some (.inl b), some (.inl c)] [] I J from ?_)
  refine ⟨80, ?_⟩
  obtain ⟨t1, t2, t3, t4, t5, t6, t7, t8, t9, t10⟩ := id sm
  refine c8_isWorks (by omega) a (fun p1 => ?_) (fun p1 => ?_)
  · first | refine And.intro (fun z => absurd z (by decide)) (fun _ => ?_) | refine And.intro (fun _ => ?_) (fun z => absurd z (by decide))
    have ok := (lw_iff t2.1).mp p1
    refine c_in (by omega) c 0 51 (fun p2 => ?_) (fun p2 => ?_)
    · first | refine And.intro (fun z => absurd z (by decide)) (fun _ => ?_) | refine And.intro (fun _ => ?_) (fun z => absurd z (by decide))
      refine And.intro (fun q1 => ?_) (fun q1 => ?_)
      · exact e_radd (by omega) _ _ _ _ _ t3 (fun r I4 f => h _ _ (Or.inr ⟨⟨ok, p2⟩, by rw [show knd b = 2 from if_pos q1]; exact f⟩))
      · exact e_radd (by omega) _ _ _ _ _ t3 (fun r I4 f => h _ _ (Or.inr ⟨⟨ok, p2⟩, by rw [show knd b = 1 from if_neg q1]; exact f⟩))
    · first | refine And.intro (fun z => absurd z (by decide)) (fun _ => ?_) | refine And.intro (fun _ => ?_) (fun z => absurd z (by decide))
      exact h _ _ (Or.inl ⟨fun z => p2 z.2, rfl, rfl, rfl, rfl, rfl, rfl, rfl⟩)
  · first | refine And.intro (fun z => absurd z (by decide)) (fun _ => ?_) | refine And.intro (fun _ => ?_) (fun z => absurd z (by decide))
    exact h _ _ (Or.inl ⟨fun z => p1 ((lw_iff t2.1).mpr z.1), rfl, rfl, rfl, rfl, rfl, rfl, rfl⟩)
def okl (a b c W : Int32) : Prop := (0 ≤ a ∧ a < W) ∧ (0 ≤ b ∧ b < W) ∧ ¬ a = b ∧ (1 ≤ c ∧ c ≤ 100000)
def lnR (ok : Prop) (V : Int → Prop) (s c : Int) (S : Prop) (E : Prop) (r : Int32) : Prop := (¬ ok ∧ r = -1 ∧ S) ∨ (ok ∧ ∃ v, V v ∧ ((v - s < c ∧ r = -2 ∧ S) ∨ (¬ v - s < c ∧ E)))
set_option maxHeartbeats 1000000 in
theorem E_lend {d : Nat} (hd : 7 ≤ d) (a b c : Int32) {I : mv_I} {J : mv_J} {Q : mv_Q} (sc : SC I) (cq : CQm I) (h : ∀ (r : Int32) (I' : mv_I), lnR (okl a b c (I 1 2)) (QC I (I 0 7) a (I 1 9).toNatClampNeg) (I 14 a.toNatClampNeg).toInt c.toInt (enS I I') (en I r I' 0 a b c (I 0 7)) r → Q (some (.inl r)) I' J) : mv_wpM mv_tab mv_sh d 53 [.inr (.inr 0), .inl a, .inl b, .inl c] I J Q := by
  obtain ⟨d, rfl⟩ : ∃ e, d = e + 1 := ⟨d - 1, by omega⟩
  refine (show ∃ fu9, mv_wp (mv_wpM mv_tab mv_sh d) mv_sh none tbX7_lend flX7 csX7 1 (fun _ _ _ _ _ => False) Q fu9 0 [some (.inr (.inr 0)), some (.inl a), some (.inl b), some (.inl c)] [] I J from ?_)
  refine ⟨80, ?_⟩
  obtain ⟨s1, s2, s3, s4, s5, s6, s7, s8, s9, s10, s11, s12⟩ := id sc
  have NS : enS I I := ⟨rfl, rfl, rfl, rfl, rfl, rfl⟩
  refine c_hasWorks (by omega) a (fun p1 => ?_) (fun p1 => ?_)
  · first | refine And.intro (fun z => absurd z (by decide)) (fun _ => ?_) | refine And.intro (fun _ => ?_) (fun z => absurd z (by decide))
    refine c_hasWorks (by omega) b (fun p2 => ?_) (fun p2 => ?_)
    · first | refine And.intro (fun z => absurd z (by decide)) (fun _ => ?_) | refine And.intro (fun _ => ?_) (fun z => absurd z (by decide))
      refine And.intro (fun q1 => ?_) (fun q1 => ?_)
      · exact h _ _ (Or.inl ⟨fun z => z.2.2.1 q1, rfl, NS⟩)
      · refine c_isWithin (by omega) c 1 100000 (fun p3 => ?_) (fun p3 => ?_)
        · first | refine And.intro (fun z => absurd z (by decide)) (fun _ => ?_) | refine And.intro (fun _ => ?_) (fun z => absurd z (by decide))
          have ok : okl a b c (I 1 2) := ⟨p1, p2, q1, p3⟩
          refine e_uc (by omega) a _ sc cq p1 (fun r I2 f2 q => ?_)
          obtain ⟨v, qv, e⟩ := q
          have e9 : I2 1 9 = I 1 9 := congrFun (f2 1 rfl) 9
          refine And.intro (fun q2 => ?_) (fun q2 => ?_)
          · rw [mi_le, e] at q2
            refine e_add (by omega) _ _ _ _ _ (by rw [e9]; exact s3) (fun r4 I4 f4 => ?_)
            refine h _ _ (Or.inr ⟨ok, v, qv, Or.inr ⟨by omega, ?_⟩⟩)
            have f5 := f4.kp (I := I) e9 (f2 15 rfl) (f2 16 rfl) (f2 17 rfl) (f2 18 rfl) (f2 19 rfl)
            rw [congrFun (f2 0 rfl) 7] at f5
            exact f5
          · rw [mi_le, e] at q2
            exact h _ _ (Or.inr ⟨ok, v, qv, Or.inl ⟨by omega, rfl, e9, f2 15 rfl, f2 16 rfl, f2 17 rfl, f2 18 rfl, f2 19 rfl⟩⟩)
        · first | refine And.intro (fun z => absurd z (by decide)) (fun _ => ?_) | refine And.intro (fun _ => ?_) (fun z => absurd z (by decide))
          exact h _ _ (Or.inl ⟨fun z => p3 z.2.2.2, rfl, NS⟩)
    · first | refine And.intro (fun z => absurd z (by decide)) (fun _ => ?_) | refine And.intro (fun _ => ?_) (fun z => absurd z (by decide))
      exact h _ _ (Or.inl ⟨fun z => p2 z.2.1, rfl, NS⟩)
  · first | refine And.intro (fun z => absurd z (by decide)) (fun _ => ?_) | refine And.intro (fun _ => ?_) (fun z => absurd z (by decide))
    exact h _ _ (Or.inl ⟨fun z => p1 z.1, rfl, NS⟩)
set_option maxHeartbeats 1000000 in
theorem E2_lend {d : Nat} (hd : 4 ≤ d) (a b c : Int32) {I : mv_I} {J : mv_J} {Q : mv_Q} (sm : SM I) (mq : MQm I) (h : ∀ (r : Int32) (I' : mv_I) (J' : mv_J), lnR (okl a b c (I 12 0)) (QM I (I 12 3) a (I 12 11).toNatClampNeg) (I 52 a.toNatClampNeg).toInt c.toInt (en2S I I') (en2 I r I' 0 a b c (I 12 3)) r → Q (some (.inl r)) I' J') : mv_wpM mv_tab mv_sh d 93 [.inr (.inr 12), .inl a, .inl b, .inl c] I J Q := by
  obtain ⟨d, rfl⟩ : ∃ e, d = e + 1 := ⟨d - 1, by omega⟩
  refine (show ∃ fu9, mv_wp (mv_wpM mv_tab mv_sh d) mv_sh none tbX8_lend flX8 csX8 1 (fun _ _ _ _ _ => False) Q fu9 0 [some (.inr (.inr 12)), some (.inl a), some (.inl b), some (.inl c)] [] I J from ?_)
  refine ⟨80, ?_⟩
  obtain ⟨t1, t2, t3, t4, t5, t6, t7, t8, t9, t10⟩ := id sm
  have NS : en2S I I := ⟨rfl, rfl, rfl, rfl, rfl, rfl⟩
  have iff := fun x => lw_iff (a := x) t2.1
  refine c8_isWorks (by omega) a (fun p1 => ?_) (fun p1 => ?_)
  · first | refine And.intro (fun z => absurd z (by decide)) (fun _ => ?_) | refine And.intro (fun _ => ?_) (fun z => absurd z (by decide))
    have o1 := (iff a).mp p1
    obtain ⟨w0, w1⟩ := ltW o1
    have k1 := mi_cl w0
    have k2 := mi_cl t2.1
    have t22 := t2.2
    have B : vp_in a 8 := vp_in_iff.mpr ⟨w0, by omega⟩
    refine c8_isWorks (by omega) b (fun p2 => ?_) (fun p2 => ?_)
    · first | refine And.intro (fun z => absurd z (by decide)) (fun _ => ?_) | refine And.intro (fun _ => ?_) (fun z => absurd z (by decide))
      have o2 := (iff b).mp p2
      refine And.intro (fun q1 => ?_) (fun q1 => ?_)
      · exact h _ _ _ (Or.inl ⟨fun z => z.2.2.1 q1, rfl, NS⟩)
      · refine c_in (by omega) c 1 100000 (fun p3 => ?_) (fun p3 => ?_)
        · first | refine And.intro (fun z => absurd z (by decide)) (fun _ => ?_) | refine And.intro (fun _ => ?_) (fun z => absurd z (by decide))
          have ok : okl a b c (I 12 0) := ⟨o1, o2, q1, p3⟩
          refine e_rq (by omega) _ _ sm mq t3 (fun I2 J2 f2 e => ?_)
          have q := e a o1
          have b1 := quV_b t10.2 (le8 t2 (by omega)) (fun z hz => by have := (t10.1 z (by omega)).1; omega) mq.1 w1 (le8 t3 (by omega)) q
          obtain ⟨b3, b4⟩ := mq.2.2 a.toNatClampNeg
          have e52 : I2 52 = I 52 := f2_fn f2 rfl (fun _ => rfl)
          have e9 : I2 12 11 = I 12 11 := f2 12 11 rfl rfl
          have el : (J2 63 a.toNatClampNeg - (I2 52 a.toNatClampNeg).toInt64).toInt = (J2 63 a.toNatClampNeg).toInt - (I 52 a.toNatClampNeg).toInt := by rw [e52, mi_Lsub (by rw [mi_L]; omega) (by rw [mi_L]; omega), mi_L]
          refine And.intro B ?_
          refine And.intro B ?_
          refine And.intro (fun q2 => ?_) (fun q2 => ?_)
          · have q3 := mi_Lle.mp ((lg_cmp_ge _ _).mp q2)
            rw [mi_L, el] at q3
            refine e_radd (by omega) _ _ _ _ _ (by rw [e9]; exact t3) (fun r4 I4 f4 => ?_)
            refine h _ _ _ (Or.inr ⟨ok, _, q, Or.inr ⟨by omega, ?_⟩⟩)
            have f5 := f4.kp (I := I) e9 (f2_fn f2 rfl (fun _ => rfl)) (f2_fn f2 rfl (fun _ => rfl)) (f2_fn f2 rfl (fun _ => rfl)) (f2_fn f2 rfl (fun _ => rfl)) (f2_fn f2 rfl (fun _ => rfl))
            rw [f2 12 3 rfl rfl] at f5
            exact f5
          · have q3 : ¬ (c.toInt64) ≤ (J2 63 a.toNatClampNeg - (I2 52 a.toNatClampNeg).toInt64) := fun z => q2 ((lg_cmp_ge _ _).mpr z)
            rw [mi_Lle, mi_L, el] at q3
            exact h _ _ _ (Or.inr ⟨ok, _, q, Or.inl ⟨by omega, rfl, e9, f2_fn f2 rfl (fun _ => rfl), f2_fn f2 rfl (fun _ => rfl), f2_fn f2 rfl (fun _ => rfl), f2_fn f2 rfl (fun _ => rfl), f2_fn f2 rfl (fun _ => rfl)⟩⟩)
        · first | refine And.intro (fun z => absurd z (by decide)) (fun _ => ?_) | refine And.intro (fun _ => ?_) (fun z => absurd z (by decide))
          exact h _ _ _ (Or.inl ⟨fun z => p3 z.2.2.2, rfl, NS⟩)
    · first | refine And.intro (fun z => absurd z (by decide)) (fun _ => ?_) | refine And.intro (fun _ => ?_) (fun z => absurd z (by decide))
      exact h _ _ _ (Or.inl ⟨fun z => p2 ((iff b).mpr z.2.1), rfl, NS⟩)
  · first | refine And.intro (fun z => absurd z (by decide)) (fun _ => ?_) | refine And.intro (fun _ => ?_) (fun z => absurd z (by decide))
    exact h _ _ _ (Or.inl ⟨fun z => p1 ((iff a).mpr z.1), rfl, NS⟩)
