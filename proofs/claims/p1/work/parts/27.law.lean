def mv_or (f g : Nat → Option mv_R) : Nat → Option mv_R := fun pc => match f pc with
  | some r => some r
  | none => g pc
theorem mv_tbB_or {cc : ByteArray} {own : String} {Ts : List Jvm.Cond} {f g : Nat → Option mv_R} (hf : mv_tbB cc own Ts f) (hg : mv_tbB cc own Ts g) : mv_tbB cc own Ts (mv_or f g) := by
  intro pc
  have h1 := hf pc
  have h2 := hg pc
  unfold mv_or
  cases h : f pc with
  | none => simp only [h]; exact h2
  | some r => simp only [h]; rw [h] at h1; exact h1
def tbC_0 : Nat → Option mv_R := mv_or tbL_0 (mv_or tbL_e tbL_h)
def tbC_1 : Nat → Option mv_R := mv_or tbL_1 (mv_or tbL_e tbL_h)
def tbC_2 : Nat → Option mv_R := mv_or tbL_2 (mv_or tbL_e tbL_h)
def tbC_3 : Nat → Option mv_R := mv_or tbL_3 (mv_or tbL_e tbL_h)
def tbC_4 : Nat → Option mv_R := mv_or tbL_4 (mv_or tbL_e tbL_h)
def tbC_5 : Nat → Option mv_R := mv_or tbL_5 (mv_or tbL_e tbL_h)
def tbC_6 : Nat → Option mv_R := mv_or tbL_6 (mv_or tbL_e tbL_h)
def tbC_7 : Nat → Option mv_R := mv_or tbL_7 (mv_or tbL_e tbL_h)
def tbC_8 : Nat → Option mv_R := mv_or tbL_8 (mv_or tbL_e tbL_h)
def tbC_9 : Nat → Option mv_R := mv_or tbL_9 (mv_or tbL_e tbL_h)
def tbC_10 : Nat → Option mv_R := mv_or tbL_10 (mv_or tbL_e tbL_h)
def tbC_11 : Nat → Option mv_R := mv_or tbL_11 (mv_or tbL_e tbL_h)
def tbC_12 : Nat → Option mv_R := mv_or tbL_12 (mv_or tbL_e tbL_h)
def tbC_13 : Nat → Option mv_R := mv_or tbL_13 (mv_or tbL_e tbL_h)
def tbC_14 : Nat → Option mv_R := mv_or tbL_14 (mv_or tbL_e tbL_h)
def tbC_15 : Nat → Option mv_R := mv_or tbL_15 (mv_or tbL_e tbL_h)
def tbC_16 : Nat → Option mv_R := mv_or tbL_16 (mv_or tbL_e tbL_h)
def tbC_17 : Nat → Option mv_R := mv_or tbL_17 (mv_or tbL_e tbL_h)
def tbC_18 : Nat → Option mv_R := mv_or tbL_18 (mv_or tbL_e tbL_h)
def tbC_19 : Nat → Option mv_R := mv_or tbL_19 (mv_or tbL_e tbL_h)
def tbC_20 : Nat → Option mv_R := mv_or tbL_20 (mv_or tbL_e tbL_h)
def tbC_21 : Nat → Option mv_R := mv_or tbL_21 (mv_or tbL_e tbL_h)
def tbC_22 : Nat → Option mv_R := mv_or tbL_22 (mv_or tbL_e tbL_h)
def tbC_23 : Nat → Option mv_R := mv_or tbL_23 (mv_or tbL_e tbL_h)
def tbC_24 : Nat → Option mv_R := mv_or tbL_24 (mv_or tbL_e tbL_h)
def tbC_25 : Nat → Option mv_R := mv_or tbL_25 (mv_or tbL_e tbL_h)
def tbC_26 : Nat → Option mv_R := mv_or tbL_26 (mv_or tbL_e tbL_h)
def tbC_d : Nat → Option mv_R := mv_or tbL_h tbL_e
theorem mi_sc : vp_in 0 6 ∧ vp_in (0 + 1) 6 ∧ vp_in (0 + 2) 6 ∧ vp_in (0 + 3) 6 ∧ vp_in (0 + 4) 6 ∧ vp_in (0 + 5) 6 := by
  unfold vp_in
  decide
set_option maxHeartbeats 1000000 in
theorem lc_0 {d : Nat} (hd : 9 ≤ d) {xs : Nat → Int32} {I : mv_I} {J : mv_J} (fr : mv_fr I) (fm : mv_fm I) : mv_wp (mv_wpM mv_tab mv_sh d) mv_sh (some (6, xs)) tbC_0 flL csL 1 (fun _ _ _ _ _ => False) (fun r _ _ => r = some (.inl 1)) 200 156 [some (.inr (.inr 999)), some (.inr (.inr 0)), some (.inr (.inr 12)), some (.inl 0)] [] I J := by
  obtain ⟨s0, s1, s2, s3, s4, s5⟩ := mi_sc
  refine And.intro s1 ?_
  refine f_works (by omega) _ fr (fun r1 I1 m1 e1 => ?_)
  refine And.intro s1 ?_
  refine g_works (by omega) _ (m1.fm fm) (fun r2 I2 J2 e2 => ?_)
  refine And.intro (fun _ => ?_) (fun q => absurd (e1.trans e2.symm) q)
  refine And.intro (fun q => ?_) (fun q => absurd (show (nI 6 - 6 : Int32) < 0 + 6 by decide) q)
  exact rfl
set_option maxHeartbeats 1000000 in
theorem lc_1 {d : Nat} (hd : 9 ≤ d) {xs : Nat → Int32} {I : mv_I} {J : mv_J} (fr : mv_fr I) (fm : mv_fm I) : mv_wp (mv_wpM mv_tab mv_sh d) mv_sh (some (6, xs)) tbC_1 flL csL 1 (fun _ _ _ _ _ => False) (fun r _ _ => r = some (.inl 1)) 200 179 [some (.inr (.inr 999)), some (.inr (.inr 0)), some (.inr (.inr 12)), some (.inl 0)] [] I J := by
  obtain ⟨s0, s1, s2, s3, s4, s5⟩ := mi_sc
  refine And.intro s1 ?_
  refine f_weeks (by omega) _ fr (fun r1 I1 m1 e1 => ?_)
  refine And.intro s1 ?_
  refine g_weeks (by omega) _ (m1.fm fm) (fun r2 I2 J2 e2 => ?_)
  refine And.intro (fun _ => ?_) (fun q => absurd (e1.trans e2.symm) q)
  refine And.intro (fun q => ?_) (fun q => absurd (show (nI 6 - 6 : Int32) < 0 + 6 by decide) q)
  exact rfl
set_option maxHeartbeats 1000000 in
theorem lc_2 {d : Nat} (hd : 9 ≤ d) {xs : Nat → Int32} {I : mv_I} {J : mv_J} (fr : mv_fr I) (fm : mv_fm I) : mv_wp (mv_wpM mv_tab mv_sh d) mv_sh (some (6, xs)) tbC_2 flL csL 1 (fun _ _ _ _ _ => False) (fun r _ _ => r = some (.inl 1)) 200 202 [some (.inr (.inr 999)), some (.inr (.inr 0)), some (.inr (.inr 12)), some (.inl 0)] [] I J := by
  obtain ⟨s0, s1, s2, s3, s4, s5⟩ := mi_sc
  refine And.intro s1 ?_
  refine And.intro s2 ?_
  refine And.intro s3 ?_
  refine f_lot (by omega) _ _ _ fr (fun r1 I1 m1 e1 => ?_)
  refine And.intro s1 ?_
  refine And.intro s2 ?_
  refine And.intro s3 ?_
  refine g_lot (by omega) _ _ _ (m1.fm fm) (fun r2 I2 J2 e2 => ?_)
  refine And.intro (fun _ => ?_) (fun q => absurd (e1.trans e2.symm) q)
  refine And.intro (fun q => ?_) (fun q => absurd (show (nI 6 - 6 : Int32) < 0 + 6 by decide) q)
  exact rfl
set_option maxHeartbeats 1000000 in
theorem lc_3 {d : Nat} (hd : 9 ≤ d) {xs : Nat → Int32} {I : mv_I} {J : mv_J} (fr : mv_fr I) (fm : mv_fm I) : mv_wp (mv_wpM mv_tab mv_sh d) mv_sh (some (6, xs)) tbC_3 flL csL 1 (fun _ _ _ _ _ => False) (fun r _ _ => r = some (.inl 1)) 200 245 [some (.inr (.inr 999)), some (.inr (.inr 0)), some (.inr (.inr 12)), some (.inl 0)] [] I J := by
  obtain ⟨s0, s1, s2, s3, s4, s5⟩ := mi_sc
  refine And.intro s1 ?_
  refine And.intro s2 ?_
  refine f_rail (by omega) _ _ fr (fun r1 I1 m1 e1 => ?_)
  refine And.intro s1 ?_
  refine And.intro s2 ?_
  refine g_rail (by omega) _ _ (m1.fm fm) (fun r2 I2 J2 e2 => ?_)
  refine And.intro (fun _ => ?_) (fun q => absurd (e1.trans e2.symm) q)
  refine And.intro (fun q => ?_) (fun q => absurd (show (nI 6 - 6 : Int32) < 0 + 6 by decide) q)
  exact rfl
set_option maxHeartbeats 1000000 in
theorem lc_4 {d : Nat} (hd : 9 ≤ d) {xs : Nat → Int32} {I : mv_I} {J : mv_J} (fr : mv_fr I) (fm : mv_fm I) : mv_wp (mv_wpM mv_tab mv_sh d) mv_sh (some (6, xs)) tbC_4 flL csL 1 (fun _ _ _ _ _ => False) (fun r _ _ => r = some (.inl 1)) 200 278 [some (.inr (.inr 999)), some (.inr (.inr 0)), some (.inr (.inr 12)), some (.inl 0)] [] I J := by
  obtain ⟨s0, s1, s2, s3, s4, s5⟩ := mi_sc
  refine And.intro s1 ?_
  refine And.intro s2 ?_
  refine f_told (by omega) _ _ fr (fun r1 I1 m1 e1 => ?_)
  refine And.intro s1 ?_
  refine And.intro s2 ?_
  refine g_told (by omega) _ _ (m1.fm fm) (fun r2 I2 J2 e2 => ?_)
  refine And.intro (fun _ => ?_) (fun q => absurd (e1.trans e2.symm) q)
  refine And.intro (fun q => ?_) (fun q => absurd (show (nI 6 - 6 : Int32) < 0 + 6 by decide) q)
  exact rfl
set_option maxHeartbeats 1000000 in
theorem lc_5 {d : Nat} (hd : 9 ≤ d) {xs : Nat → Int32} {I : mv_I} {J : mv_J} (fr : mv_fr I) (fm : mv_fm I) : mv_wp (mv_wpM mv_tab mv_sh d) mv_sh (some (6, xs)) tbC_5 flL csL 1 (fun _ _ _ _ _ => False) (fun r _ _ => r = some (.inl 1)) 200 311 [some (.inr (.inr 999)), some (.inr (.inr 0)), some (.inr (.inr 12)), some (.inl 0)] [] I J := by
  obtain ⟨s0, s1, s2, s3, s4, s5⟩ := mi_sc
  refine And.intro s1 ?_
  refine f_total (by omega) _ fr (fun r1 I1 m1 e1 => ?_)
  refine And.intro s1 ?_
  refine g_total (by omega) _ (m1.fm fm) (fun r2 I2 J2 e2 => ?_)
  refine And.intro (fun _ => ?_) (fun q => absurd (e1.trans e2.symm) q)
  refine And.intro (fun q => ?_) (fun q => absurd (show (nI 6 - 6 : Int32) < 0 + 6 by decide) q)
  exact rfl
set_option maxHeartbeats 1000000 in
theorem lc_6 {d : Nat} (hd : 9 ≤ d) {xs : Nat → Int32} {I : mv_I} {J : mv_J} (fr : mv_fr I) (fm : mv_fm I) : mv_wp (mv_wpM mv_tab mv_sh d) mv_sh (some (6, xs)) tbC_6 flL csL 1 (fun _ _ _ _ _ => False) (fun r _ _ => r = some (.inl 1)) 200 334 [some (.inr (.inr 999)), some (.inr (.inr 0)), some (.inr (.inr 12)), some (.inl 0)] [] I J := by
  obtain ⟨s0, s1, s2, s3, s4, s5⟩ := mi_sc
  refine And.intro s1 ?_
  refine And.intro s2 ?_
  refine And.intro s3 ?_
  refine f_lend (by omega) _ _ _ fr (fun r1 I1 m1 e1 => ?_)
  refine And.intro s1 ?_
  refine And.intro s2 ?_
  refine And.intro s3 ?_
  refine g_lend (by omega) _ _ _ (m1.fm fm) (fun r2 I2 J2 e2 => ?_)
  refine And.intro (fun _ => ?_) (fun q => absurd (e1.trans e2.symm) q)
  refine And.intro (fun q => ?_) (fun q => absurd (show (nI 6 - 6 : Int32) < 0 + 6 by decide) q)
  exact rfl
set_option maxHeartbeats 1000000 in
theorem lc_7 {d : Nat} (hd : 9 ≤ d) {xs : Nat → Int32} {I : mv_I} {J : mv_J} (fr : mv_fr I) (fm : mv_fm I) : mv_wp (mv_wpM mv_tab mv_sh d) mv_sh (some (6, xs)) tbC_7 flL csL 1 (fun _ _ _ _ _ => False) (fun r _ _ => r = some (.inl 1)) 200 377 [some (.inr (.inr 999)), some (.inr (.inr 0)), some (.inr (.inr 12)), some (.inl 0)] [] I J := by
  obtain ⟨s0, s1, s2, s3, s4, s5⟩ := mi_sc
  refine And.intro s1 ?_
  refine And.intro s2 ?_
  refine And.intro (fun q => ?_) (fun q => ?_)
  · refine And.intro s3 ?_
    refine f_shut (by omega) _ _ _ fr (fun r1 I1 m1 e1 => ?_)
    refine And.intro s1 ?_
    refine And.intro s2 ?_
    refine And.intro (fun q => ?_) (fun q => ?_)
    · refine And.intro s3 ?_
      refine g_shut (by omega) _ _ _ (m1.fm fm) (fun r2 I2 J2 e2 => ?_)
      refine And.intro (fun _ => ?_) (fun q => absurd (e1.trans e2.symm) q)
      refine And.intro (fun q => ?_) (fun q => absurd (show (nI 6 - 6 : Int32) < 0 + 6 by decide) q)
      exact rfl
    · refine And.intro s3 ?_
      refine g_shut (by omega) _ _ _ (m1.fm fm) (fun r2 I2 J2 e2 => ?_)
      refine And.intro (fun _ => ?_) (fun q => absurd (e1.trans e2.symm) q)
      refine And.intro (fun q => ?_) (fun q => absurd (show (nI 6 - 6 : Int32) < 0 + 6 by decide) q)
      exact rfl
  · refine And.intro s3 ?_
    refine f_shut (by omega) _ _ _ fr (fun r1 I1 m1 e1 => ?_)
    refine And.intro s1 ?_
    refine And.intro s2 ?_
    refine And.intro (fun q => ?_) (fun q => ?_)
    · refine And.intro s3 ?_
      refine g_shut (by omega) _ _ _ (m1.fm fm) (fun r2 I2 J2 e2 => ?_)
      refine And.intro (fun _ => ?_) (fun q => absurd (e1.trans e2.symm) q)
      refine And.intro (fun q => ?_) (fun q => absurd (show (nI 6 - 6 : Int32) < 0 + 6 by decide) q)
      exact rfl
    · refine And.intro s3 ?_
      refine g_shut (by omega) _ _ _ (m1.fm fm) (fun r2 I2 J2 e2 => ?_)
      refine And.intro (fun _ => ?_) (fun q => absurd (e1.trans e2.symm) q)
      refine And.intro (fun q => ?_) (fun q => absurd (show (nI 6 - 6 : Int32) < 0 + 6 by decide) q)
      exact rfl
set_option maxHeartbeats 1000000 in
theorem lc_8 {d : Nat} (hd : 9 ≤ d) {xs : Nat → Int32} {I : mv_I} {J : mv_J} (fr : mv_fr I) (fm : mv_fm I) : mv_wp (mv_wpM mv_tab mv_sh d) mv_sh (some (6, xs)) tbC_8 flL csL 1 (fun _ _ _ _ _ => False) (fun r _ _ => r = some (.inl 1)) 200 436 [some (.inr (.inr 999)), some (.inr (.inr 0)), some (.inr (.inr 12)), some (.inl 0)] [] I J := by
  obtain ⟨s0, s1, s2, s3, s4, s5⟩ := mi_sc
  refine And.intro s1 ?_
  refine And.intro s2 ?_
  refine And.intro s3 ?_
  refine f_open (by omega) _ _ _ fr (fun r1 I1 m1 e1 => ?_)
  refine And.intro s1 ?_
  refine And.intro s2 ?_
  refine And.intro s3 ?_
  refine g_open (by omega) _ _ _ (m1.fm fm) (fun r2 I2 J2 e2 => ?_)
  refine And.intro (fun _ => ?_) (fun q => absurd (e1.trans e2.symm) q)
  refine And.intro (fun q => ?_) (fun q => absurd (show (nI 6 - 6 : Int32) < 0 + 6 by decide) q)
  exact rfl
set_option maxHeartbeats 1000000 in
theorem lc_9 {d : Nat} (hd : 9 ≤ d) {xs : Nat → Int32} {I : mv_I} {J : mv_J} (fr : mv_fr I) (fm : mv_fm I) : mv_wp (mv_wpM mv_tab mv_sh d) mv_sh (some (6, xs)) tbC_9 flL csL 1 (fun _ _ _ _ _ => False) (fun r _ _ => r = some (.inl 1)) 200 479 [some (.inr (.inr 999)), some (.inr (.inr 0)), some (.inr (.inr 12)), some (.inl 0)] [] I J := by
  obtain ⟨s0, s1, s2, s3, s4, s5⟩ := mi_sc
  refine And.intro s1 ?_
  refine And.intro s2 ?_
  refine And.intro s3 ?_
  refine f_quota (by omega) _ _ _ fr (fun r1 I1 m1 e1 => ?_)
  refine And.intro s1 ?_
  refine And.intro s2 ?_
  refine And.intro s3 ?_
  refine g_quota (by omega) _ _ _ (m1.fm fm) (fun r2 I2 J2 e2 => ?_)
  refine And.intro (fun _ => ?_) (fun q => absurd (e1.trans e2.symm) q)
  refine And.intro (fun q => ?_) (fun q => absurd (show (nI 6 - 6 : Int32) < 0 + 6 by decide) q)
  exact rfl
set_option maxHeartbeats 1000000 in
theorem lc_10 {d : Nat} (hd : 9 ≤ d) {xs : Nat → Int32} {I : mv_I} {J : mv_J} (fr : mv_fr I) (fm : mv_fm I) : mv_wp (mv_wpM mv_tab mv_sh d) mv_sh (some (6, xs)) tbC_10 flL csL 1 (fun _ _ _ _ _ => False) (fun r _ _ => r = some (.inl 1)) 200 522 [some (.inr (.inr 999)), some (.inr (.inr 0)), some (.inr (.inr 12)), some (.inl 0)] [] I J := by
  obtain ⟨s0, s1, s2, s3, s4, s5⟩ := mi_sc
  refine And.intro s1 ?_
  refine f_left (by omega) _ fr (fun r1 I1 m1 e1 => ?_)
  refine And.intro s1 ?_
  refine g_left (by omega) _ (m1.fm fm) (fun r2 I2 J2 e2 => ?_)
  refine And.intro (fun _ => ?_) (fun q => absurd (e1.trans e2.symm) q)
  refine And.intro (fun q => ?_) (fun q => absurd (show (nI 6 - 6 : Int32) < 0 + 6 by decide) q)
  exact rfl
set_option maxHeartbeats 1000000 in
theorem lc_11 {d : Nat} (hd : 9 ≤ d) {xs : Nat → Int32} {I : mv_I} {J : mv_J} (fr : mv_fr I) (fm : mv_fm I) : mv_wp (mv_wpM mv_tab mv_sh d) mv_sh (some (6, xs)) tbC_11 flL csL 1 (fun _ _ _ _ _ => False) (fun r _ _ => r = some (.inl 1)) 200 545 [some (.inr (.inr 999)), some (.inr (.inr 0)), some (.inr (.inr 12)), some (.inl 0)] [] I J := by
  obtain ⟨s0, s1, s2, s3, s4, s5⟩ := mi_sc
  refine And.intro s1 ?_
  refine And.intro s2 ?_
  refine And.intro s3 ?_
  refine f_type (by omega) _ _ fr (fun r1 I1 m1 e1 => ?_)
  refine And.intro s1 ?_
  refine And.intro s2 ?_
  refine And.intro s3 ?_
  refine g_type (by omega) _ _ (m1.fm fm) (fun r2 I2 J2 e2 => ?_)
  have e3 : r1 = r2 := by rcases e1 with ⟨z1, z2⟩ | ⟨z1, z2⟩ <;> rcases e2 with ⟨y1, y2⟩ | ⟨y1, y2⟩ <;> first | exact z2.trans y2.symm | exact absurd y1 z1 | exact absurd z1 y1
  refine And.intro (fun _ => ?_) (fun q => absurd e3 q)
  refine And.intro (fun q => ?_) (fun q => absurd (show (nI 6 - 6 : Int32) < 0 + 6 by decide) q)
  exact rfl
set_option maxHeartbeats 1000000 in
theorem lc_12 {d : Nat} (hd : 9 ≤ d) {xs : Nat → Int32} {I : mv_I} {J : mv_J} (fr : mv_fr I) (fm : mv_fm I) : mv_wp (mv_wpM mv_tab mv_sh d) mv_sh (some (6, xs)) tbC_12 flL csL 1 (fun _ _ _ _ _ => False) (fun r _ _ => r = some (.inl 1)) 200 608 [some (.inr (.inr 999)), some (.inr (.inr 0)), some (.inr (.inr 12)), some (.inl 0)] [] I J := by
  obtain ⟨s0, s1, s2, s3, s4, s5⟩ := mi_sc
  refine f_parts (by omega) fr (fun r1 I1 m1 e1 => ?_)
  refine g_parts (by omega) (m1.fm fm) (fun r2 I2 J2 e2 => ?_)
  refine And.intro (fun _ => ?_) (fun q => absurd (e1.trans e2.symm) q)
  refine And.intro (fun q => ?_) (fun q => absurd (show (nI 6 - 6 : Int32) < 0 + 6 by decide) q)
  exact rfl
set_option maxHeartbeats 1000000 in
theorem lc_13 {d : Nat} (hd : 9 ≤ d) {xs : Nat → Int32} {I : mv_I} {J : mv_J} (fr : mv_fr I) (fm : mv_fm I) : mv_wp (mv_wpM mv_tab mv_sh d) mv_sh (some (6, xs)) tbC_13 flL csL 1 (fun _ _ _ _ _ => False) (fun r _ _ => r = some (.inl 1)) 200 621 [some (.inr (.inr 999)), some (.inr (.inr 0)), some (.inr (.inr 12)), some (.inl 0)] [] I J := by
  obtain ⟨s0, s1, s2, s3, s4, s5⟩ := mi_sc
  refine And.intro s1 ?_
  refine And.intro s2 ?_
  refine And.intro s3 ?_
  refine And.intro s4 ?_
  refine And.intro s5 ?_
  refine f_ship (by omega) _ _ _ _ _ fr (fun r1 I1 m1 e1 => ?_)
  refine And.intro s1 ?_
  refine And.intro s2 ?_
  refine And.intro s3 ?_
  refine And.intro s4 ?_
  refine And.intro s5 ?_
  refine g_ship (by omega) _ _ _ _ _ (m1.fm fm) (fun r2 I2 J2 e2 => ?_)
  refine And.intro (fun _ => ?_) (fun q => absurd (e1.trans e2.symm) q)
  refine And.intro (fun q => ?_) (fun q => absurd (show (nI 6 - 6 : Int32) < 0 + 6 by decide) q)
  exact rfl
set_option maxHeartbeats 1000000 in
theorem lc_14 {d : Nat} (hd : 9 ≤ d) {xs : Nat → Int32} {I : mv_I} {J : mv_J} (fr : mv_fr I) (fm : mv_fm I) : mv_wp (mv_wpM mv_tab mv_sh d) mv_sh (some (6, xs)) tbC_14 flL csL 1 (fun _ _ _ _ _ => False) (fun r _ _ => r = some (.inl 1)) 200 684 [some (.inr (.inr 999)), some (.inr (.inr 0)), some (.inr (.inr 12)), some (.inl 0)] [] I J := by
  obtain ⟨s0, s1, s2, s3, s4, s5⟩ := mi_sc
  refine And.intro s1 ?_
  refine And.intro s2 ?_
  refine And.intro s3 ?_
  refine f_load (by omega) _ _ _ fr (fun r1 I1 m1 e1 => ?_)
  refine And.intro s1 ?_
  refine And.intro s2 ?_
  refine And.intro s3 ?_
  refine g_load (by omega) _ _ _ (m1.fm fm) (fun r2 I2 J2 e2 => ?_)
  refine And.intro (fun _ => ?_) (fun q => absurd (e1.trans e2.symm) q)
  refine And.intro (fun q => ?_) (fun q => absurd (show (nI 6 - 6 : Int32) < 0 + 6 by decide) q)
  exact rfl
set_option maxHeartbeats 1000000 in
theorem lc_15 {d : Nat} (hd : 9 ≤ d) {xs : Nat → Int32} {I : mv_I} {J : mv_J} (fr : mv_fr I) (fm : mv_fm I) : mv_wp (mv_wpM mv_tab mv_sh d) mv_sh (some (6, xs)) tbC_15 flL csL 1 (fun _ _ _ _ _ => False) (fun r _ _ => r = some (.inl 1)) 200 727 [some (.inr (.inr 999)), some (.inr (.inr 0)), some (.inr (.inr 12)), some (.inl 0)] [] I J := by
  obtain ⟨s0, s1, s2, s3, s4, s5⟩ := mi_sc
  refine And.intro s1 ?_
  refine And.intro s2 ?_
  refine f_held (by omega) _ _ fr (fun r1 I1 m1 e1 => ?_)
  refine And.intro s1 ?_
  refine And.intro s2 ?_
  refine g_held (by omega) _ _ (m1.fm fm) (fun r2 I2 J2 e2 => ?_)
  refine And.intro (fun _ => ?_) (fun q => absurd (e1.trans e2.symm) q)
  refine And.intro (fun q => ?_) (fun q => absurd (show (nI 6 - 6 : Int32) < 0 + 6 by decide) q)
  exact rfl
set_option maxHeartbeats 1000000 in
theorem lc_16 {d : Nat} (hd : 9 ≤ d) {xs : Nat → Int32} {I : mv_I} {J : mv_J} (fr : mv_fr I) (fm : mv_fm I) : mv_wp (mv_wpM mv_tab mv_sh d) mv_sh (some (6, xs)) tbC_16 flL csL 1 (fun _ _ _ _ _ => False) (fun r _ _ => r = some (.inl 1)) 200 760 [some (.inr (.inr 999)), some (.inr (.inr 0)), some (.inr (.inr 12)), some (.inl 0)] [] I J := by
  obtain ⟨s0, s1, s2, s3, s4, s5⟩ := mi_sc
  refine And.intro s1 ?_
  refine f_grade (by omega) _ fr (fun r1 I1 m1 e1 => ?_)
  refine And.intro s1 ?_
  refine g_grade (by omega) _ (m1.fm fm) (fun r2 I2 J2 e2 => ?_)
  refine And.intro (fun _ => ?_) (fun q => absurd (e1.trans e2.symm) q)
  refine And.intro (fun q => ?_) (fun q => absurd (show (nI 6 - 6 : Int32) < 0 + 6 by decide) q)
  exact rfl
set_option maxHeartbeats 1000000 in
theorem lc_17 {d : Nat} (hd : 9 ≤ d) {xs : Nat → Int32} {I : mv_I} {J : mv_J} (fr : mv_fr I) (fm : mv_fm I) : mv_wp (mv_wpM mv_tab mv_sh d) mv_sh (some (6, xs)) tbC_17 flL csL 1 (fun _ _ _ _ _ => False) (fun r _ _ => r = some (.inl 1)) 200 783 [some (.inr (.inr 999)), some (.inr (.inr 0)), some (.inr (.inr 12)), some (.inl 0)] [] I J := by
  obtain ⟨s0, s1, s2, s3, s4, s5⟩ := mi_sc
  refine And.intro s1 ?_
  refine And.intro s2 ?_
  refine And.intro s3 ?_
  refine And.intro s4 ?_
  refine And.intro s5 ?_
  refine f_surf (by omega) _ _ _ _ _ fr (fun r1 I1 m1 e1 => ?_)
  refine And.intro s1 ?_
  refine And.intro s2 ?_
  refine And.intro s3 ?_
  refine And.intro s4 ?_
  refine And.intro s5 ?_
  refine g_surf (by omega) _ _ _ _ _ (m1.fm fm) (fun r2 I2 J2 e2 => ?_)
  refine And.intro (fun _ => ?_) (fun q => absurd (e1.trans e2.symm) q)
  refine And.intro (fun q => ?_) (fun q => absurd (show (nI 6 - 6 : Int32) < 0 + 6 by decide) q)
  exact rfl
set_option maxHeartbeats 1000000 in
theorem lc_18 {d : Nat} (hd : 9 ≤ d) {xs : Nat → Int32} {I : mv_I} {J : mv_J} (fr : mv_fr I) (fm : mv_fm I) : mv_wp (mv_wpM mv_tab mv_sh d) mv_sh (some (6, xs)) tbC_18 flL csL 1 (fun _ _ _ _ _ => False) (fun r _ _ => r = some (.inl 1)) 200 846 [some (.inr (.inr 999)), some (.inr (.inr 0)), some (.inr (.inr 12)), some (.inl 0)] [] I J := by
  obtain ⟨s0, s1, s2, s3, s4, s5⟩ := mi_sc
  refine And.intro s1 ?_
  refine f_sea (by omega) _ fr (fun r1 I1 m1 e1 => ?_)
  refine And.intro s1 ?_
  refine g_sea (by omega) _ (m1.fm fm) (fun r2 I2 J2 e2 => ?_)
  refine And.intro (fun _ => ?_) (fun q => absurd (e1.trans e2.symm) q)
  refine And.intro (fun q => ?_) (fun q => absurd (show (nI 6 - 6 : Int32) < 0 + 6 by decide) q)
  exact rfl
set_option maxHeartbeats 1000000 in
theorem lc_19 {d : Nat} (hd : 9 ≤ d) {xs : Nat → Int32} {I : mv_I} {J : mv_J} (fr : mv_fr I) (fm : mv_fm I) : mv_wp (mv_wpM mv_tab mv_sh d) mv_sh (some (6, xs)) tbC_19 flL csL 1 (fun _ _ _ _ _ => False) (fun r _ _ => r = some (.inl 1)) 200 869 [some (.inr (.inr 999)), some (.inr (.inr 0)), some (.inr (.inr 12)), some (.inl 0)] [] I J := by
  obtain ⟨s0, s1, s2, s3, s4, s5⟩ := mi_sc
  refine And.intro s1 ?_
  refine f_bar (by omega) _ fr (fun r1 I1 m1 e1 => ?_)
  refine And.intro s1 ?_
  refine g_bar (by omega) _ (m1.fm fm) (fun r2 I2 J2 e2 => ?_)
  refine And.intro (fun _ => ?_) (fun q => absurd (e1.trans e2.symm) q)
  refine And.intro (fun q => ?_) (fun q => absurd (show (nI 6 - 6 : Int32) < 0 + 6 by decide) q)
  exact rfl
set_option maxHeartbeats 1000000 in
theorem lc_20 {d : Nat} (hd : 9 ≤ d) {xs : Nat → Int32} {I : mv_I} {J : mv_J} (fr : mv_fr I) (fm : mv_fm I) : mv_wp (mv_wpM mv_tab mv_sh d) mv_sh (some (6, xs)) tbC_20 flL csL 1 (fun _ _ _ _ _ => False) (fun r _ _ => r = some (.inl 1)) 200 892 [some (.inr (.inr 999)), some (.inr (.inr 0)), some (.inr (.inr 12)), some (.inl 0)] [] I J := by
  obtain ⟨s0, s1, s2, s3, s4, s5⟩ := mi_sc
  refine And.intro s1 ?_
  refine f_lay (by omega) _ fr (fun r1 I1 m1 e1 => ?_)
  refine And.intro s1 ?_
  refine g_lay (by omega) _ (m1.fm fm) (fun r2 I2 J2 e2 => ?_)
  refine And.intro (fun _ => ?_) (fun q => absurd (e1.trans e2.symm) q)
  refine And.intro (fun q => ?_) (fun q => absurd (show (nI 6 - 6 : Int32) < 0 + 6 by decide) q)
  exact rfl
set_option maxHeartbeats 1000000 in
theorem lc_21 {d : Nat} (hd : 9 ≤ d) {xs : Nat → Int32} {I : mv_I} {J : mv_J} (fr : mv_fr I) (fm : mv_fm I) : mv_wp (mv_wpM mv_tab mv_sh d) mv_sh (some (6, xs)) tbC_21 flL csL 1 (fun _ _ _ _ _ => False) (fun r _ _ => r = some (.inl 1)) 200 915 [some (.inr (.inr 999)), some (.inr (.inr 0)), some (.inr (.inr 12)), some (.inl 0)] [] I J := by
  obtain ⟨s0, s1, s2, s3, s4, s5⟩ := mi_sc
  refine And.intro s1 ?_
  refine And.intro s2 ?_
  refine f_laid (by omega) _ _ fr (fun r1 I1 m1 e1 => ?_)
  refine And.intro s1 ?_
  refine And.intro s2 ?_
  refine g_laid (by omega) _ _ (m1.fm fm) (fun r2 I2 J2 e2 => ?_)
  refine And.intro (fun _ => ?_) (fun q => absurd (e1.trans e2.symm) q)
  refine And.intro (fun q => ?_) (fun q => absurd (show (nI 6 - 6 : Int32) < 0 + 6 by decide) q)
  exact rfl
set_option maxHeartbeats 1000000 in
theorem lc_22 {d : Nat} (hd : 9 ≤ d) {xs : Nat → Int32} {I : mv_I} {J : mv_J} (fr : mv_fr I) (fm : mv_fm I) : mv_wp (mv_wpM mv_tab mv_sh d) mv_sh (some (6, xs)) tbC_22 flL csL 1 (fun _ _ _ _ _ => False) (fun r _ _ => r = some (.inl 1)) 200 948 [some (.inr (.inr 999)), some (.inr (.inr 0)), some (.inr (.inr 12)), some (.inl 0)] [] I J := by
  obtain ⟨s0, s1, s2, s3, s4, s5⟩ := mi_sc
  refine And.intro s1 ?_
  refine f_count (by omega) _ fr (fun r1 I1 m1 e1 => ?_)
  refine And.intro s1 ?_
  refine g_count (by omega) _ (m1.fm fm) (fun r2 I2 J2 e2 => ?_)
  refine And.intro (fun _ => ?_) (fun q => absurd (e1.trans e2.symm) q)
  refine And.intro (fun q => ?_) (fun q => absurd (show (nI 6 - 6 : Int32) < 0 + 6 by decide) q)
  exact rfl
set_option maxHeartbeats 1000000 in
theorem lc_23 {d : Nat} (hd : 9 ≤ d) {xs : Nat → Int32} {I : mv_I} {J : mv_J} (fr : mv_fr I) (fm : mv_fm I) : mv_wp (mv_wpM mv_tab mv_sh d) mv_sh (some (6, xs)) tbC_23 flL csL 1 (fun _ _ _ _ _ => False) (fun r _ _ => r = some (.inl 1)) 200 971 [some (.inr (.inr 999)), some (.inr (.inr 0)), some (.inr (.inr 12)), some (.inl 0)] [] I J := by
  obtain ⟨s0, s1, s2, s3, s4, s5⟩ := mi_sc
  refine And.intro s1 ?_
  refine And.intro s2 ?_
  refine And.intro s3 ?_
  refine f_sheet (by omega) _ _ _ fr (fun r1 I1 m1 e1 => ?_)
  refine And.intro s1 ?_
  refine And.intro s2 ?_
  refine And.intro s3 ?_
  refine g_sheet (by omega) _ _ _ (m1.fm fm) (fun r2 I2 J2 e2 => ?_)
  refine And.intro (fun _ => ?_) (fun q => absurd (e1.trans e2.symm) q)
  refine And.intro (fun q => ?_) (fun q => absurd (show (nI 6 - 6 : Int32) < 0 + 6 by decide) q)
  exact rfl
set_option maxHeartbeats 1000000 in
theorem lc_24 {d : Nat} (hd : 9 ≤ d) {xs : Nat → Int32} {I : mv_I} {J : mv_J} (fr : mv_fr I) (fm : mv_fm I) : mv_wp (mv_wpM mv_tab mv_sh d) mv_sh (some (6, xs)) tbC_24 flL csL 1 (fun _ _ _ _ _ => False) (fun r _ _ => r = some (.inl 1)) 200 1014 [some (.inr (.inr 999)), some (.inr (.inr 0)), some (.inr (.inr 12)), some (.inl 0)] [] I J := by
  obtain ⟨s0, s1, s2, s3, s4, s5⟩ := mi_sc
  refine And.intro s1 ?_
  refine f_drop (by omega) _ fr (fun r1 I1 m1 e1 => ?_)
  refine And.intro s1 ?_
  refine g_drop (by omega) _ (m1.fm fm) (fun r2 I2 J2 e2 => ?_)
  refine And.intro (fun _ => ?_) (fun q => absurd (e1.trans e2.symm) q)
  refine And.intro (fun q => ?_) (fun q => absurd (show (nI 6 - 6 : Int32) < 0 + 6 by decide) q)
  exact rfl
set_option maxHeartbeats 1000000 in
theorem lc_25 {d : Nat} (hd : 9 ≤ d) {xs : Nat → Int32} {I : mv_I} {J : mv_J} (fr : mv_fr I) (fm : mv_fm I) : mv_wp (mv_wpM mv_tab mv_sh d) mv_sh (some (6, xs)) tbC_25 flL csL 1 (fun _ _ _ _ _ => False) (fun r _ _ => r = some (.inl 1)) 200 1037 [some (.inr (.inr 999)), some (.inr (.inr 0)), some (.inr (.inr 12)), some (.inl 0)] [] I J := by
  obtain ⟨s0, s1, s2, s3, s4, s5⟩ := mi_sc
  refine And.intro s1 ?_
  refine And.intro s2 ?_
  refine And.intro s3 ?_
  refine And.intro s4 ?_
  refine f_item (by omega) _ _ _ _ fr (fun r1 I1 m1 e1 => ?_)
  refine And.intro s1 ?_
  refine And.intro s2 ?_
  refine And.intro s3 ?_
  refine And.intro s4 ?_
  refine g_item (by omega) _ _ _ _ (m1.fm fm) (fun r2 I2 J2 e2 => ?_)
  refine And.intro (fun _ => ?_) (fun q => absurd (e1.trans e2.symm) q)
  refine And.intro (fun q => ?_) (fun q => absurd (show (nI 6 - 6 : Int32) < 0 + 6 by decide) q)
  exact rfl
set_option maxHeartbeats 1000000 in
theorem lc_26 {d : Nat} (hd : 9 ≤ d) {xs : Nat → Int32} {I : mv_I} {J : mv_J} (fr : mv_fr I) (fm : mv_fm I) : mv_wp (mv_wpM mv_tab mv_sh d) mv_sh (some (6, xs)) tbC_26 flL csL 1 (fun _ _ _ _ _ => False) (fun r _ _ => r = some (.inl 1)) 200 1090 [some (.inr (.inr 999)), some (.inr (.inr 0)), some (.inr (.inr 12)), some (.inl 0)] [] I J := by
  obtain ⟨s0, s1, s2, s3, s4, s5⟩ := mi_sc
  refine And.intro s1 ?_
  refine And.intro s2 ?_
  refine And.intro s3 ?_
  refine And.intro s4 ?_
  refine And.intro s5 ?_
  refine f_copy (by omega) _ _ _ _ _ fr (fun r1 I1 m1 e1 => ?_)
  refine And.intro s1 ?_
  refine And.intro s2 ?_
  refine And.intro s3 ?_
  refine And.intro s4 ?_
  refine And.intro s5 ?_
  refine g_copy (by omega) _ _ _ _ _ (m1.fm fm) (fun r2 I2 J2 e2 => ?_)
  refine And.intro (fun _ => ?_) (fun q => absurd (e1.trans e2.symm) q)
  refine And.intro (fun q => ?_) (fun q => absurd (show (nI 6 - 6 : Int32) < 0 + 6 by decide) q)
  exact rfl
