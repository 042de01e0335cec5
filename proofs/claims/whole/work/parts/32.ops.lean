section OPS4
variable {hC hM : gw_H} {σ : Nat → Int32} {nd ns nh hr : Nat}
theorem sp_fst_t {d : Int32} {P : Nat → Bool} {n k : Nat} (h : P k = true) : sp_fst d P (n + 1) k = nI k := by rw [sp_fst, if_pos h]
theorem sp_fst_f {d : Int32} {P : Nat → Bool} {n k : Nat} (h : P k = false) : sp_fst d P (n + 1) k = sp_fst d P n (k + 1) := by rw [sp_fst, h]; rfl
theorem c_takl (hW : sp_WF σ nd ns nh hr) (hh : hr ≤ 999) {p1 s : Int32} (j : Nat) (e : p1 = nI j) (hj : j < nh) {h0 : gw_H} {Q : Int32 → gw_H → Prop}
    (hq : ∀ h', rc_F 24 h0 h' → Q (sp_fst (-9) (fun n => decide (sp_hd (sp_hn nd nh n σ) j 3 = s)) 61 0) h') :
    ∀ (n k : Nat) (h : gw_H), k ≤ 61 → 61 ≤ k + n → rc_C 24 h (sp_hn nd nh k σ) nd ns nh → rc_F 24 h0 h → sp_fst (-9) (fun n => decide (sp_hd (sp_hn nd nh n σ) j 3 = s)) 61 0 = sp_fst (-9) (fun n => decide (sp_hd (sp_hn nd nh n σ) j 3 = s)) (61 - k) k → wl_X5_takes_47 p1 s Q (n + 1) (nI k) h := by
  have h6 := hW.1.2.2.1
  intro n
  induction n with
  | zero =>
    intro k h hk hn hR hF hE
    have : k = 61 := by omega
    subst this
    unfold wl_X5_takes_47
    refine br_t (by decide) ?_
    have := hq h hF
    rw [hE] at this
    exact this
  | succ n ih =>
    intro k h hk hn hR hF hE
    unfold wl_X5_takes_47
    refine pk_lt 60 k (fun g => ?_) (fun g => ?_) rfl rfl (by omega) (by omega)
    · have : k = 61 := by omega
      subst this
      have := hq h hF
      rw [hE] at this
      exact this
    · refine c_at j e (by omega) (by omega) ?_
      have ev : h 37 j = sp_hd (sp_hn nd nh k σ) j 3 := (hR.2.2.2 j hj).2.2.2.1
      rw [ev]
      rw [show 61 - k = (60 - k) + 1 by omega] at hE
      refine ⟨fun c => c_hour' (hW.hn k (by omega)) hR (fun h' a1 a2 => ?_), fun c => ?_⟩
      · rw [nI_1]
        refine ih (k + 1) h' (by omega) (by omega) a1 (hF.trans a2) ?_
        rw [hE, sp_fst_f (decide_eq_false c), show 60 - k = 61 - (k + 1) by omega]
      · replace hE := hE.trans (sp_fst_t (decide_eq_true c))
        rw [← hE]; exact hq h hF
theorem m_takl (hW : sp_WF σ nd ns nh hr) (hh : hr ≤ 999) {p1 s : Int32} (j : Nat) (e : p1 = nI j) (hj : j < nh) {h0 : gw_H} {Q : Int32 → gw_H → Prop}
    (hq : ∀ h', rm_M h' σ → rq_F h0 h' → Q (sp_fst (-9) (fun n => decide (sp_hd (sp_hn nd nh n σ) j 3 = s)) 61 0) h') :
    ∀ (n k : Nat) (h : gw_H), k ≤ 61 → 61 ≤ k + n → rm_M h (sp_hn nd nh k σ) → rm_5 h σ → rq_F h0 h → sp_fst (-9) (fun n => decide (sp_hd (sp_hn nd nh n σ) j 3 = s)) 61 0 = sp_fst (-9) (fun n => decide (sp_hd (sp_hn nd nh n σ) j 3 = s)) (61 - k) k → wl_X6_takes__32 p1 s Q (n + 2) (-9) (nI k) h := by
  have h6 := hW.1.2.2.1
  have fin : ∀ h v, rm_5 h σ → rq_F h0 h → v = sp_fst (-9) (fun n => decide (sp_hd (sp_hn nd nh n σ) j 3 = s)) 61 0 → wk_X6_takes__72 p1 s Q v h := by
    intro h v h5 hF hv
    unfold wk_X6_takes__72
    exact m_end h5 (fun h' a1 a2 a3 => by rw [hv]; exact hq h' a1 (hF.trans (rf2 a3)))
  intro n
  induction n with
  | zero =>
    intro k h hk hn hM1 h5 hF hE
    have : k = 61 := by omega
    subst this
    unfold wl_X6_takes__32
    exact br_t (by decide) (fin h _ h5 hF hE.symm)
  | succ n ih =>
    intro k h hk hn hM1 h5 hF hE
    unfold wl_X6_takes__32
    refine pk_lt 60 k (fun g => ?_) (fun g => br_f (by decide) ?_) rfl rfl (by omega) (by omega)
    · have : k = 61 := by omega
      subst this
      exact fin h _ h5 hF hE.symm
    · refine m_at hM1 j 3 e rfl (by omega) (by omega) ?_
      rw [show 61 - k = (60 - k) + 1 by omega] at hE
      refine ⟨fun c => ?_, fun c => ?_⟩
      · unfold wk_X6_takes__60
        refine m_hour' (hW.hn k (by omega)) hM1 (fun h' a1 a2 => ?_)
        rw [nI_1]
        refine ih (k + 1) h' (by omega) (by omega) a1 (h5.F a2) (hF.trans a2.q) ?_
        rw [hE, sp_fst_f (decide_eq_false c), show 60 - k = 61 - (k + 1) by omega]
      · unfold wk_X6_takes__60
        refine m_hour' (hW.hn k (by omega)) hM1 (fun h' a1 a2 => ?_)
        replace hE := hE.trans (sp_fst_t (decide_eq_true c))
        unfold wl_X6_takes__32
        have f := fin h' (nI k) (h5.F a2) (hF.trans a2.q) hE.symm
        exact br_c (fun _ => f) (fun _ => br_t (nI_pos' (by omega)) f)
theorem o_takes (R : RR hC hM) {p1 p2 : Int32} : wp_X5_takes hC p1 p2 (fun r hC' => wp_X6_takes_ hM p1 p2 (rr_A r hC')) := by
  obtain ⟨σ, nd, ns, nh, hr, S⟩ := R
  have S : RS hC hM σ nd ns nh hr := S
  obtain ⟨hW, hh, hR, hM1, hX⟩ := id S
  have h5 := hW.1.2.1
  have h6 := hW.1.2.2.1
  obtain ⟨e1, e5, e9, -⟩ := rr_e5 hW hR
  unfold wp_X5_takes
  refine c_hh (b := 1) e9 (by omega) (fun c => br_t rfl ?_) (fun j hj e => br_f rr_dec1 (c_sh (b := 1) e5 (by omega) (fun c => bn_t rfl ?_) (fun i hi ei => bn_f rr_dec1 ?_)))
  · unfold wk_X5_takes_28
    refine S.rf rk1 (fun Q q => ?_)
    unfold wp_X6_takes_
    refine m_ih hW hM1 (fun _ => br_t rfl ?_) (fun j hj e => c_nr e hj (by omega) c)
    unfold wk_X6_takes__16; exact q
  · unfold wk_X5_takes_28
    refine S.rf rk1 (fun Q q => ?_)
    unfold wp_X6_takes_
    refine m_ih hW hM1 (fun c => c_nr e hj (by omega) c) (fun _ _ _ => br_f rr_dec1 (m_is hW hM1 (fun _ => bn_t rfl ?_) (fun j hj e => c_nr e hj (by omega) c)))
    unfold wk_X6_takes__16; exact q
  · refine c_ta hW hR (by omega) (fun h' a1 a2 a3 a4 => ⟨62, c_takl hW hh j e hj (fun h2 d1 => ?_) 61 0 h' (by omega) (by omega) a1 rc_F.refl rfl⟩)
    unfold wp_X6_takes_
    refine m_ih hW hM1 (fun c => c_nr e hj (by omega) c) (fun _ _ _ => br_f rr_dec1 (m_is hW hM1 (fun c => c_nr ei hi (by omega) c) (fun _ _ _ => bn_f rr_dec1 ?_)))
    refine m_beg hM1 (fun h1 b1 b2 b3 => ⟨63, m_takl hW hh j e hj (fun h3 f1 f2 => ⟨rfl, S.q (a4.trans d1) f1 ((rf5 b3).trans f2)⟩) 61 0 h1 (by omega) (by omega) b1 b2 rq_F.refl rfl⟩)
theorem c_stil (hW : sp_WF σ nd ns nh hr) (hh : hr ≤ 999) {h0 : gw_H} {Q : Int32 → gw_H → Prop}
    (hq : ∀ h', rc_F 24 h0 h' → Q (sp_fst (-9) (fun n => decide (sp_hv (sp_hn nd nh n σ) (-1) nh = 0)) 61 0) h') :
    ∀ (n k : Nat) (h : gw_H), k ≤ 61 → 61 ≤ k + n → rc_C 24 h (sp_hn nd nh k σ) nd ns nh → rc_F 24 h0 h → sp_fst (-9) (fun n => decide (sp_hv (sp_hn nd nh n σ) (-1) nh = 0)) 61 0 = sp_fst (-9) (fun n => decide (sp_hv (sp_hn nd nh n σ) (-1) nh = 0)) (61 - k) k → wl_X5_still_13 Q (n + 1) (nI k) h := by
  intro n
  induction n with
  | zero =>
    intro k h hk hn hR hF hE
    have : k = 61 := by omega
    subst this
    unfold wl_X5_still_13
    refine br_t (by decide) ?_
    have := hq h hF
    rw [hE] at this
    exact this
  | succ n ih =>
    intro k h hk hn hR hF hE
    unfold wl_X5_still_13
    refine pk_lt 60 k (fun g => ?_) (fun g => ?_) rfl rfl (by omega) (by omega)
    · have : k = 61 := by omega
      subst this
      have := hq h hF
      rw [hE] at this
      exact this
    · refine c_hv (hW.hn k (by omega)) hR (Or.inl rfl) ?_
      rw [show 61 - k = (60 - k) + 1 by omega] at hE
      refine ⟨fun c => c_hour' (hW.hn k (by omega)) hR (fun h' a1 a2 => ?_), fun c => ?_⟩
      · rw [nI_1]
        refine ih (k + 1) h' (by omega) (by omega) a1 (hF.trans a2) ?_
        rw [hE, sp_fst_f (decide_eq_false c), show 60 - k = 61 - (k + 1) by omega]
      · replace hE := hE.trans (sp_fst_t (decide_eq_true c))
        rw [← hE]; exact hq h hF
theorem m_stil (hW : sp_WF σ nd ns nh hr) (hh : hr ≤ 999) {h0 : gw_H} {Q : Int32 → gw_H → Prop}
    (hq : ∀ h', rm_M h' σ → rq_F h0 h' → Q (sp_fst (-9) (fun n => decide (sp_hv (sp_hn nd nh n σ) (-1) nh = 0)) 61 0) h') :
    ∀ (n k : Nat) (h : gw_H), k ≤ 61 → 61 ≤ k + n → rm_M h (sp_hn nd nh k σ) → rm_5 h σ → rq_F h0 h → sp_fst (-9) (fun n => decide (sp_hv (sp_hn nd nh n σ) (-1) nh = 0)) 61 0 = sp_fst (-9) (fun n => decide (sp_hv (sp_hn nd nh n σ) (-1) nh = 0)) (61 - k) k → wl_X6_still_9 Q (n + 2) (-9) (nI k) h := by
  have fin : ∀ h v, rm_5 h σ → rq_F h0 h → v = sp_fst (-9) (fun n => decide (sp_hv (sp_hn nd nh n σ) (-1) nh = 0)) 61 0 → wk_X6_still_45 Q v h := by
    intro h v h5 hF hv
    unfold wk_X6_still_45
    exact m_end h5 (fun h' a1 a2 a3 => by rw [hv]; exact hq h' a1 (hF.trans (rf2 a3)))
  intro n
  induction n with
  | zero =>
    intro k h hk hn hM1 h5 hF hE
    have : k = 61 := by omega
    subst this
    unfold wl_X6_still_9
    exact br_t (by decide) (fin h _ h5 hF hE.symm)
  | succ n ih =>
    intro k h hk hn hM1 h5 hF hE
    unfold wl_X6_still_9
    refine pk_lt 60 k (fun g => ?_) (fun g => br_f (by decide) ?_) rfl rfl (by omega) (by omega)
    · have : k = 61 := by omega
      subst this
      exact fin h _ h5 hF hE.symm
    · refine m_hv (hW.hn k (by omega)) hM1 ?_
      rw [show 61 - k = (60 - k) + 1 by omega] at hE
      refine ⟨fun c => ?_, fun c => ?_⟩
      · unfold wk_X6_still_33
        refine m_hour' (hW.hn k (by omega)) hM1 (fun h' a1 a2 => ?_)
        rw [nI_1]
        refine ih (k + 1) h' (by omega) (by omega) a1 (h5.F a2) (hF.trans a2.q) ?_
        rw [hE, sp_fst_f (decide_eq_false c), show 60 - k = 61 - (k + 1) by omega]
      · unfold wk_X6_still_33
        refine m_hour' (hW.hn k (by omega)) hM1 (fun h' a1 a2 => ?_)
        replace hE := hE.trans (sp_fst_t (decide_eq_true c))
        unfold wl_X6_still_9
        have f := fin h' (nI k) (h5.F a2) (hF.trans a2.q) hE.symm
        exact br_c (fun _ => f) (fun _ => br_t (nI_pos' (by omega)) f)
theorem o_still (R : RR hC hM) : wp_X5_still hC (fun r hC' => wp_X6_still hM (rr_A r hC')) := by
  obtain ⟨σ, nd, ns, nh, hr, S⟩ := R
  have S : RS hC hM σ nd ns nh hr := S
  obtain ⟨hW, hh, hR, hM1, hX⟩ := id S
  unfold wp_X5_still wp_X6_still
  refine c_ta hW hR (by omega) (fun h' a1 a2 a3 a4 => ⟨62, c_stil hW hh (fun h2 d1 => ?_) 61 0 h' (by omega) (by omega) a1 rc_F.refl rfl⟩)
  refine m_beg hM1 (fun h1 b1 b2 b3 => ⟨63, m_stil hW hh (fun h3 f1 f2 => ⟨rfl, S.q (a4.trans d1) f1 ((rf5 b3).trans f2)⟩) 61 0 h1 (by omega) (by omega) b1 b2 rq_F.refl rfl⟩)
end OPS4
