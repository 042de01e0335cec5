/-! behind how many hours a head is rid of its song -/
def sp_rp (τ : Nat → Int32) (nd nh j : Nat) : Nat → Bool := fun n => decide (¬ 0 ≤ sp_hd (sp_hn nd nh n τ) j 3)
def sp_rh (d : Int32) (τ : Nat → Int32) (nd nh j : Nat) : Int32 := sp_fst d (sp_rp τ nd nh j) 61 0
theorem sp_fst_cs (P : Nat → Bool) : ∀ n k, (∀ d, sp_fst d P n k = d) ∨ ∃ m, m < k + n ∧ ∀ d, sp_fst d P n k = nI m := by
  intro n
  induction n with
  | zero => exact fun k => Or.inl (fun _ => rfl)
  | succ n ih =>
    intro k
    cases g : P k with
    | true => exact Or.inr ⟨k, by omega, fun d => sp_fst_t g⟩
    | false =>
      rcases ih (k + 1) with q | ⟨m, hm, q⟩
      · exact Or.inl (fun d => by rw [sp_fst_f g]; exact q d)
      · exact Or.inr ⟨m, by omega, fun d => by rw [sp_fst_f g]; exact q d⟩
theorem sp_rh_cs (τ : Nat → Int32) (nd nh j : Nat) : (sp_rh 61 τ nd nh j = 61 ∧ sp_rh (-9) τ nd nh j = -9) ∨ ∃ m, m < 61 ∧ sp_rh 61 τ nd nh j = nI m ∧ sp_rh (-9) τ nd nh j = nI m := by
  unfold sp_rh
  rcases sp_fst_cs (sp_rp τ nd nh j) 61 0 with q | ⟨m, hm, q⟩
  · exact Or.inl ⟨q 61, q (-9)⟩
  · exact Or.inr ⟨m, by omega, q 61, q (-9)⟩
/-- the reference's least for the class's -/
def sp_ml (v : Int32) : Int32 := if v = 61 then -9 else v
def sp_v61 (v : Int32) : Prop := v = 61 ∨ ∃ m, m < 61 ∧ v = nI m
theorem sp_ml6 : sp_ml 61 = -9 := rfl
theorem sp_mln {m : Nat} (hm : m < 61) : sp_ml (nI m) = nI m := by
  unfold sp_ml
  rw [if_neg (fun q => by
    have := (nI_eq (a := m) (b := 61) (by omega) (by omega)).mp q
    omega)]
theorem rid_step {v r6 r9 : Int32} {A B : Prop} (hv : sp_v61 v) (hr : (r6 = 61 ∧ r9 = -9) ∨ ∃ m, m < 61 ∧ r6 = nI m ∧ r9 = nI m) (a : v ≤ r6 → A) (b : ¬ v ≤ r6 → B) :
    (r9 < 0 → A) ∧ (¬ r9 < 0 → (sp_ml v < 0 → B) ∧ (¬ sp_ml v < 0 → (r9 < sp_ml v → B) ∧ (¬ r9 < sp_ml v → A))) := by
  rcases hr with ⟨e6, e9⟩ | ⟨m, hm, e6, e9⟩
  · subst e6 e9
    refine br_t (by decide) (a ?_)
    rcases hv with rfl | ⟨m, hm, rfl⟩
    · exact Int32.le_refl _
    · exact nI_le (b := 61) (by omega) (by omega)
  · subst e6 e9
    refine br_f (nI_pos (by omega)) ?_
    rcases hv with rfl | ⟨n, hn, rfl⟩
    · exact br_t (by decide) (b (nI_ge (b := 61) hm (by omega)))
    · rw [sp_mln hn]
      refine br_f (nI_pos (by omega)) ⟨fun q => b (fun z => ?_), fun q => a ?_⟩
      · rw [nI_ltI (by omega) (by omega)] at q
        rw [nI_leI (by omega) (by omega)] at z
        omega
      · rw [nI_ltI (by omega) (by omega)] at q
        rw [nI_leI (by omega) (by omega)]
        omega
section OPS6
variable {hC hM : gw_H} {σ τ : Nat → Int32} {nd ns nh hr ns' : Nat}
theorem c_hul (hW : sp_WF τ nd ns nh hr) (hh : hr ≤ 999) {p1 : Int32} (j : Nat) (e : p1 = nI j) (hj : j < nh) {h0 : gw_H} {Q : Int32 → gw_H → Prop}
    (hq : ∀ h', rc_F 24 h0 h' → Q (sp_rh 61 τ nd nh j) h') :
    ∀ (n k : Nat) (h : gw_H), k ≤ 61 → 61 ≤ k + n → rc_C 24 h (sp_hn nd nh k τ) nd ns nh → rc_F 24 h0 h → sp_rh 61 τ nd nh j = sp_fst 61 (sp_rp τ nd nh j) (61 - k) k → wl_X5_hoursUntilRid_2 p1 Q (n + 1) (nI k) h := by
  have h6 := hW.1.2.2.1
  intro n
  induction n with
  | zero =>
    intro k h hk hn hR hF hE
    have : k = 61 := by omega
    subst this
    unfold wl_X5_hoursUntilRid_2
    refine br_t (by decide) ?_
    have := hq h hF
    rw [hE] at this
    exact this
  | succ n ih =>
    intro k h hk hn hR hF hE
    unfold wl_X5_hoursUntilRid_2
    refine pk_lt 60 k (fun g => ?_) (fun g => ?_) rfl rfl (by omega) (by omega)
    · have : k = 61 := by omega
      subst this
      have := hq h hF
      rw [hE] at this
      exact this
    · refine c_hs (hW.hn k (by omega)) hR j e hj ?_
      rw [show 61 - k = (60 - k) + 1 by omega] at hE
      by_cases c : 0 ≤ sp_hd (sp_hn nd nh k τ) j 3
      · rw [if_pos c]
        refine bn_f rr_dec1 (c_hour' (hW.hn k (by omega)) hR (fun h' a1 a2 => ?_))
        rw [nI_1]
        refine ih (k + 1) h' (by omega) (by omega) a1 (hF.trans a2) ?_
        rw [hE, sp_fst_f (by unfold sp_rp; exact decide_eq_false (fun q => q c)), show 60 - k = 61 - (k + 1) by omega]
      · rw [if_neg c]
        refine bn_t rfl ?_
        have := hq h hF
        rw [hE.trans (sp_fst_t (by unfold sp_rp; exact decide_eq_true c))] at this
        exact this
theorem c_hu_ (hW : sp_WF τ nd ns nh hr) (hh : hr ≤ 999) {p1 : Int32} (j : Nat) (e : p1 = nI j) (hj : j < nh) {h : gw_H} {Q : Int32 → gw_H → Prop} (hR : rc_C 24 h τ nd ns nh)
    (hq : ∀ h', rc_F 24 h h' → Q (sp_rh 61 τ nd nh j) h') : wp_X5_hoursUntilRid h p1 Q := by
  unfold wp_X5_hoursUntilRid
  exact ⟨62, c_hul hW hh j e hj hq 61 0 h (by omega) (by omega) hR rc_F.refl rfl⟩
theorem m_hul (hW : sp_WF τ nd ns nh hr) (hh : hr ≤ 999) {p1 : Int32} (j : Nat) (e : p1 = nI j) (hj : j < nh) {h0 : gw_H} {Q : Int32 → gw_H → Prop}
    (hq : ∀ h', rm_M h' σ → rm_5 h' σ → rq_F h0 h' → Q (sp_rh (-9) τ nd nh j) h') :
    ∀ (n k : Nat) (h : gw_H), k ≤ 61 → 61 ≤ k + n → rm_M h (sp_hn nd nh k τ) → rm_5 h σ → rq_F h0 h → sp_rh (-9) τ nd nh j = sp_fst (-9) (sp_rp τ nd nh j) (61 - k) k → wl_X6_ridOf_5 p1 Q (n + 2) (-9) (nI k) h := by
  have h6 := hW.1.2.2.1
  have fin : ∀ h v, rm_5 h σ → rq_F h0 h → v = sp_rh (-9) τ nd nh j → wk_X6_ridOf_42 p1 Q v h := by
    intro h v h5 hF hv
    unfold wk_X6_ridOf_42
    exact m_end h5 (fun h' a1 a2 a3 => by rw [hv]; exact hq h' a1 a2 (hF.trans (rf2 a3)))
  intro n
  induction n with
  | zero =>
    intro k h hk hn hM1 h5 hF hE
    have : k = 61 := by omega
    subst this
    unfold wl_X6_ridOf_5
    exact br_t (by decide) (fin h _ h5 hF hE.symm)
  | succ n ih =>
    intro k h hk hn hM1 h5 hF hE
    unfold wl_X6_ridOf_5
    refine pk_lt 60 k (fun g => ?_) (fun g => br_f (by decide) ?_) rfl rfl (by omega) (by omega)
    · have : k = 61 := by omega
      subst this
      exact fin h _ h5 hF hE.symm
    · refine m_at hM1 j 3 e rfl (by omega) (by omega) ?_
      rw [show 61 - k = (60 - k) + 1 by omega] at hE
      refine ⟨fun c => ?_, fun c => ?_⟩
      · unfold wk_X6_ridOf_30
        refine m_hour' (hW.hn k (by omega)) hM1 (fun h' a1 a2 => ?_)
        rw [nI_1]
        refine ih (k + 1) h' (by omega) (by omega) a1 (h5.F a2) (hF.trans a2.q) ?_
        rw [hE, sp_fst_f (by unfold sp_rp; exact decide_eq_false (fun q => q c)), show 60 - k = 61 - (k + 1) by omega]
      · unfold wk_X6_ridOf_30
        refine m_hour' (hW.hn k (by omega)) hM1 (fun h' a1 a2 => ?_)
        replace hE := hE.trans (sp_fst_t (by unfold sp_rp; exact decide_eq_true c))
        unfold wl_X6_ridOf_5
        have f := fin h' (nI k) (h5.F a2) (hF.trans a2.q) hE.symm
        exact br_c (fun _ => f) (fun _ => br_t (nI_pos' (by omega)) f)
theorem m_hu_ (hW : sp_WF τ nd ns nh hr) (hh : hr ≤ 999) {p1 : Int32} (j : Nat) (e : p1 = nI j) (hj : j < nh) {h : gw_H} {Q : Int32 → gw_H → Prop} (hM1 : rm_M h τ) (h5 : rm_5 h σ)
    (hq : ∀ h', rm_M h' σ → rm_5 h' σ → rq_F h h' → Q (sp_rh (-9) τ nd nh j) h') : wp_X6_ridOf h p1 Q := by
  unfold wp_X6_ridOf
  exact ⟨63, m_hul hW hh j e hj hq 61 0 h (by omega) (by omega) hM1 h5 rq_F.refl rfl⟩
/-! rid -/
def sp_rif (σ : Nat → Int32) (nd nh j : Nat) : Nat → Int32 := fun k => sp_rh 61 (sp_tr σ j (nI k)) nd nh j
def sp_ri (σ : Nat → Int32) (nd nh j : Nat) : Nat → Int32 × Int32 := sp_bs (fun k v => decide (¬ v ≤ sp_rif σ nd nh j k)) (sp_rif σ nd nh j) nI (61, -9)
theorem sp_ri_inv (σ : Nat → Int32) (nd nh j : Nat) : ∀ k, k ≤ 4 → ((sp_ri σ nd nh j k = (61, -9)) ∨ ∃ m l, m < 61 ∧ l < 4 ∧ sp_ri σ nd nh j k = (nI m, nI l)) := by
  intro k
  induction k with
  | zero => exact fun _ => Or.inl rfl
  | succ k ih =>
    intro hk
    by_cases g : (sp_ri σ nd nh j k).1 ≤ sp_rif σ nd nh j k
    · have e : sp_ri σ nd nh j (k + 1) = sp_ri σ nd nh j k := sp_bs_f (decide_eq_false (fun q => q g))
      rw [e]; exact ih (by omega)
    · have e : sp_ri σ nd nh j (k + 1) = (sp_rif σ nd nh j k, nI k) := sp_bs_t (decide_eq_true g)
      rw [e]
      rcases sp_rh_cs (sp_tr σ j (nI k)) nd nh j with ⟨q, -⟩ | ⟨m, hm, q, -⟩
      · exfalso
        have q' : sp_rif σ nd nh j k = 61 := q
        rw [q'] at g
        rcases ih (by omega) with z | ⟨m, l, hm, -, z⟩
        · rw [z] at g; exact g (Int32.le_refl _)
        · rw [z] at g; exact g (nI_le (b := 61) (by omega) (by omega))
      · exact Or.inr ⟨m, k, hm, by omega, by rw [show sp_rif σ nd nh j k = nI m from q]⟩
theorem sp_ri_v (σ : Nat → Int32) (nd nh j : Nat) {k : Nat} (hk : k ≤ 4) : sp_v61 (sp_ri σ nd nh j k).1 := by
  rcases sp_ri_inv σ nd nh j k hk with z | ⟨m, l, hm, -, z⟩
  · rw [z]; exact Or.inl rfl
  · rw [z]; exact Or.inr ⟨m, hm, rfl⟩
theorem sp_trw {k : Nat} (hk : k < 4) : nI k = 0 ∨ nI k = 1 ∨ nI k = 2 ∨ nI k = 3 := by
  have : k = 0 ∨ k = 1 ∨ k = 2 ∨ k = 3 := by omega
  rcases this with rfl | rfl | rfl | rfl
  · exact Or.inl rfl
  · exact Or.inr (Or.inl rfl)
  · exact Or.inr (Or.inr (Or.inl rfl))
  · exact Or.inr (Or.inr (Or.inr rfl))
theorem c_ridl (hW : sp_WF σ nd ns nh hr) (hh : hr ≤ 999) {p1 p2 : Int32} (j : Nat) (e : p1 = nI j) (hj : j < nh) (hs : 0 ≤ sp_hd σ j 3) {h0 : gw_H} {Q : Int32 → gw_H → Prop}
    (hq : ∀ h', rc_F 24 h0 h' → Q (if p2 = 0 then (sp_ri σ nd nh j 4).2 else sp_ml (sp_ri σ nd nh j 4).1) h') :
    ∀ (n k : Nat) (h : gw_H), k ≤ 4 → 4 ≤ k + n → rc_C 1 h σ nd ns nh → rc_F 24 h0 h → wl_X5_rid_65 p1 p2 Q (n + 1) (sp_ri σ nd nh j k).1 (sp_ri σ nd nh j k).2 (nI k) h := by
  have fin : ∀ h, rc_F 24 h0 h → ((p2 = 0 → Q (sp_ri σ nd nh j 4).2 h) ∧ (¬ p2 = 0 → ((¬ (sp_ri σ nd nh j 4).2 = -9 → Q (sp_ri σ nd nh j 4).1 h) ∧ ((sp_ri σ nd nh j 4).2 = -9 → Q (sp_ri σ nd nh j 4).2 h)))) := by
    intro h hF
    have := hq h hF
    refine ⟨fun c => ?_, fun c => ⟨fun d => ?_, fun d => ?_⟩⟩
    · rw [if_pos c] at this; exact this
    · rw [if_neg c] at this
      rcases sp_ri_inv σ nd nh j 4 (by omega) with z | ⟨m, l, hm, -, z⟩
      · exact absurd (by rw [z]) d
      · rw [z] at this ⊢
        rw [sp_mln hm] at this
        exact this
    · rw [if_neg c] at this
      rcases sp_ri_inv σ nd nh j 4 (by omega) with z | ⟨m, l, hm, hl, z⟩
      · rw [z] at this ⊢
        exact this
      · rw [z] at d
        exact absurd d (n9_ne (by omega))
  intro n
  induction n with
  | zero =>
    intro k h hk hn hR hF
    have : k = 4 := by omega
    subst this
    unfold wl_X5_rid_65
    exact br_t (by decide) (fin h hF)
  | succ n ih =>
    intro k h hk hn hR hF
    unfold wl_X5_rid_65
    refine pk_lt 3 k (fun g => ?_) (fun g => ?_) rfl rfl (by omega) (by omega)
    · have : k = 4 := by omega
      subst this
      exact fin h hF
    · refine c_ta hW hR (by omega) (fun h1 a1 a2 a3 a4 => c_tr hW a1 j e hj (sp_trw (by omega)) (fun h2 b1 b2 => c_hu_ (hW.tr j hj (Or.inl hs)) hh j e hj b1 (fun h3 d1 => ?_)))
      have F := hF.trans (a4.trans (b2.trans d1))
      have nx := ih (k + 1) h3 (by omega) (by omega) (rc_1_24 hR (a4.trans (b2.trans d1))) F
      refine ⟨fun c => ?_, fun c => ?_⟩
      · unfold wk_X5_rid_115
        rw [nI_1]
        have e : sp_ri σ nd nh j (k + 1) = sp_ri σ nd nh j k := sp_bs_f (decide_eq_false (fun q => q c))
        rw [e] at nx
        exact nx
      · unfold wk_X5_rid_115
        rw [nI_1]
        have e : sp_ri σ nd nh j (k + 1) = (sp_rif σ nd nh j k, nI k) := sp_bs_t (decide_eq_true c)
        rw [e] at nx
        exact nx
theorem m_ridl (hW : sp_WF σ nd ns nh hr) (hh : hr ≤ 999) {p1 p2 : Int32} (j : Nat) (e : p1 = nI j) (hj : j < nh) (hs : 0 ≤ sp_hd σ j 3) {h0 : gw_H} {Q : Int32 → gw_H → Prop}
    (hq : ∀ h', rm_M h' σ → rq_F h0 h' → Q (if p2 = 0 then (sp_ri σ nd nh j 4).2 else sp_ml (sp_ri σ nd nh j 4).1) h') :
    ∀ (n k : Nat) (h : gw_H), k ≤ 4 → 4 ≤ k + n → rm_M h σ → rm_5 h σ → rq_F h0 h → wl_X6_rid_66 p1 p2 Q (n + 1) (sp_ri σ nd nh j k).2 (sp_ml (sp_ri σ nd nh j k).1) (nI k) h := by
  have fin : ∀ h, rm_M h σ → rq_F h0 h → ((¬ p2 = 0 → Q (sp_ml (sp_ri σ nd nh j 4).1) h) ∧ (p2 = 0 → Q (sp_ri σ nd nh j 4).2 h)) := by
    intro h hM1 hF
    have := hq h hM1 hF
    refine ⟨fun c => ?_, fun c => ?_⟩
    · rw [if_neg c] at this; exact this
    · rw [if_pos c] at this; exact this
  intro n
  induction n with
  | zero =>
    intro k h hk hn hM1 h5 hF
    have : k = 4 := by omega
    subst this
    unfold wl_X6_rid_66
    exact br_t (by decide) (fin h hM1 hF)
  | succ n ih =>
    intro k h hk hn hM1 h5 hF
    unfold wl_X6_rid_66
    refine pk_le 4 k (fun g => ?_) (fun g => ?_) rfl rfl (by omega) (by omega)
    · have : k = 4 := by omega
      subst this
      exact fin h hM1 hF
    · refine m_tr hW hM1 j e hj (sp_trw (by omega)) (fun h2 b1 b2 => m_hu_ (hW.tr j hj (Or.inl hs)) hh j e hj b1 (h5.congr (b2 5 (by omega))) (fun h3 d1 d2 d3 => ?_))
      have nx := ih (k + 1) h3 (by omega) (by omega) d1 d2 (hF.trans ((rf2 b2).trans d3))
      refine rid_step (sp_ri_v σ nd nh j hk) (sp_rh_cs (sp_tr σ j (nI k)) nd nh j) (fun c => ?_) (fun c => ?_)
      · unfold wk_X6_rid_114
        rw [nI_1]
        have e : sp_ri σ nd nh j (k + 1) = sp_ri σ nd nh j k := sp_bs_f (decide_eq_false (fun q => q c))
        rw [e] at nx
        exact nx
      · unfold wk_X6_rid_106 wk_X6_rid_114
        rw [nI_1]
        have e : sp_ri σ nd nh j (k + 1) = (sp_rif σ nd nh j k, nI k) := sp_bs_t (decide_eq_true c)
        rw [e] at nx
        rcases sp_rh_cs (sp_tr σ j (nI k)) nd nh j with ⟨q, -⟩ | ⟨m, hm, q, q9⟩
        · exfalso
          rw [q] at c
          rcases sp_ri_v σ nd nh j hk with z | ⟨m, hm, z⟩
          · rw [z] at c; exact c (Int32.le_refl _)
          · rw [z] at c; exact c (nI_le (b := 61) (by omega) (by omega))
        · rw [q9]
          rw [show sp_rif σ nd nh j k = nI m from q] at nx
          rw [← sp_mln hm]
          exact nx
theorem o_rid (R : RR hC hM) {p1 p2 : Int32} : wp_X5_rid hC p1 p2 (fun r hC' => wp_X6_rid hM p1 p2 (rr_A r hC')) := by
  obtain ⟨σ, nd, ns, nh, hr, S⟩ := R
  have S : RS hC hM σ nd ns nh hr := S
  obtain ⟨hW, hh, hR, hM1, hX⟩ := id S
  have h6 := hW.1.2.2.1
  obtain ⟨e1, e5, e9, -⟩ := rr_e5 hW hR
  have rfz : ∀ {p : Int32}, ¬ p = 0 → ∀ {Q : Int32 → gw_H → Prop}, wp_X6_refuse hM p Q → wk_X6_rid_40 p1 p2 Q p hM := by
    intro p hp Q q
    unfold wk_X6_rid_40
    exact br_f hp q
  unfold wp_X5_rid
  refine c_hh (b := 1) e9 (by omega) (fun c => bn_t rfl (S.rf rk1 (fun Q q => ?_))) (fun j hj e => bn_f rr_dec1 (c_nei (fun q => br_t rfl (c_hs hW hR j e hj ?_)) (fun q1 q2 => br_f rr_dec1 (S.rf rk2 (fun Q q => ?_)))))
  · unfold wp_X6_rid
    exact m_ih hW hM1 (fun _ => bn_t rfl (rfz rz1 q)) (fun j hj e => c_nr e hj (by omega) c)
  · have md : ∀ {Q : Int32 → gw_H → Prop}, ((0 ≤ (sp_hd σ j 3) → (wk_X6_rid_40 p1 p2 Q 0 hM)) ∧ (¬ 0 ≤ (sp_hd σ j 3) → (wk_X6_rid_40 p1 p2 Q (-3) hM))) → wp_X6_rid hM p1 p2 Q := by
      intro Q g
      unfold wp_X6_rid
      refine m_ih hW hM1 (fun c => c_nr e hj (by omega) c) (fun _ _ _ => bn_f rr_dec1 (m_p2 (fun z1 z2 => ?_) (fun _ _ _ => bn_f rr_dec1 (m_at hM1 j 3 e rfl (by omega) (by omega) g))))
      rcases q with q | q
      · exact absurd q z1
      · exact absurd q z2
    by_cases c : 0 ≤ sp_hd σ j 3
    · rw [if_pos c]
      refine bn_f rr_dec1 ⟨5, c_ridl hW hh j e hj c (fun h' a1 => md (br_t c ?_)) 4 0 hC (by omega) (by omega) hR rc_F.refl⟩
      unfold wk_X6_rid_40
      exact br_t rfl (m_beg hM1 (fun h1 b1 b2 b3 => ⟨5, m_ridl hW hh j e hj c (fun h3 f1 f2 => ⟨rfl, S.q a1 f1 ((rf5 b3).trans f2)⟩) 4 0 h1 (by omega) (by omega) b1 b2 rq_F.refl⟩))
    · rw [if_neg c]
      exact bn_t rfl (S.rf rk3 (fun Q q => md (br_f c (rfz rz3 q))))
  · unfold wp_X6_rid
    refine m_ih hW hM1 (fun c => c_nr e hj (by omega) c) (fun _ _ _ => bn_f rr_dec1 (m_p2 (fun _ _ => bn_t rfl (rfz rz2 q)) (fun k hk ek => ?_)))
    have : k = 0 ∨ k = 1 := by omega
    rcases this with rfl | rfl
    · exact absurd ek q1
    · exact absurd ek q2
end OPS6
