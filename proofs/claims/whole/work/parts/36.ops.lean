section OPS8
variable {hC hM : gw_H} {σ τ : Nat → Int32} {nd ns nh hr ns' : Nat}
/-! shut -/
def sp_shf (σ : Nat → Int32) (nd nh N : Nat) : Nat → Int32 := fun d => sp_hv (sp_hn nd nh N (sp_td σ d)) (-1) nh
def sp_sh (σ : Nat → Int32) (nd nh N : Nat) : Nat → Int32 × Int32 := sp_bs (fun d v => sp_op σ d && decide (¬ v ≤ sp_shf σ nd nh N d)) (sp_shf σ nd nh N) nI (sp_hv (sp_hn nd nh N σ) (-1) nh, -9)
theorem sp_tdc {d : Nat} (hd : d < 32) (h : sp_op σ d = true) : upd σ 1 (σ 1 &&& ((1 <<< (nI d &&& 31)) ^^^ -1)) = sp_td σ d := by
  unfold sp_td
  congr 1
  apply b_ext
  intro i hi
  rw [b_and, b_xor, b_xor, b_one d hd hi]
  have m1 : bt (-1) i = true := (by decide +kernel : ∀ i, i < 32 → bt (-1) i = true) i hi
  rw [m1]
  by_cases g : i = d
  · subst g
    unfold sp_op at h
    rw [h]; simp
  · rw [decide_eq_false g]; simp
theorem c_shul (hW : sp_WF σ nd ns nh hr) (hh : hr ≤ 999) {N : Nat} (hN : N ≤ 60) {p1 : Int32} (hp : p1 = nI N) {h0 : gw_H} {Q : Int32 → gw_H → Prop}
    (hq : ∀ h', rc_F 24 h0 h' → Q (sp_sh σ nd nh N nd).2 h') :
    ∀ (n k : Nat) (h : gw_H), k ≤ nd → nd ≤ k + n → rc_C 1 h σ nd ns nh → rc_F 24 h0 h → wl_X5_shut_42 p1 Q (n + 1) (sp_sh σ nd nh N k).1 (sp_sh σ nd nh N k).2 (nI k) h := by
  have h8 := hW.1.1
  intro n
  induction n with
  | zero =>
    intro k h hk hn hR hF
    have : k = nd := by omega
    subst this
    unfold wl_X5_shut_42
    exact br_t (by rw [(rr_e5 hW hR).1]; exact nI_le (Nat.le_refl _) (by omega)) (hq h hF)
  | succ n ih =>
    intro k h hk hn hR hF
    unfold wl_X5_shut_42
    refine pk_le nd k (fun g => ?_) (fun g => c_op hW hR rfl g ?_) (rr_e5 hW hR).1 rfl (by omega) (by omega)
    · have : k = nd := by omega
      subst this
      exact hq h hF
    · by_cases o : sp_op σ k = true
      · rw [if_pos o]
        refine br_f rr_dec1 (c_ta hW hR (by omega) (fun h1 a1 a2 a3 a4 => c_tu hW a1 rfl g (fun h2 b1 b2 => c_phs' (hW.td g) hN (by omega) hp b1 (fun h3 d1 d2 => c_hv ((hW.td g).hn N (by omega)) d1 (Or.inl rfl) ?_))))
        have F := a4.trans (b2.trans d2)
        have nx := ih (k + 1) h3 (by omega) (by omega) (rc_1_24 hR F) (hF.trans F)
        refine ⟨fun d => ?_, fun d => ?_⟩
        · unfold wk_X5_shut_130
          rw [nI_1]
          have e : sp_sh σ nd nh N (k + 1) = sp_sh σ nd nh N k := sp_bs_f (and_ff (decide_eq_false (fun q => q d)))
          rw [e] at nx
          exact nx
        · unfold wk_X5_shut_130
          rw [nI_1]
          have e : sp_sh σ nd nh N (k + 1) = (sp_shf σ nd nh N k, nI k) := sp_bs_t (by rw [o, Bool.true_and]; exact decide_eq_true d)
          rw [e] at nx
          exact nx
      · rw [if_neg o]
        refine br_t rfl ?_
        unfold wk_X5_shut_130
        rw [nI_1]
        have nx := ih (k + 1) h (by omega) (by omega) hR hF
        rw [Bool.not_eq_true] at o
        have e : sp_sh σ nd nh N (k + 1) = sp_sh σ nd nh N k := sp_bs_f (by rw [o]; rfl)
        rw [e] at nx
        exact nx
theorem m_shul (hW : sp_WF σ nd ns nh hr) (hh : hr ≤ 999) {N : Nat} (hN : N ≤ 60) {p1 : Int32} (hp : p1 = nI N) {h0 : gw_H} {Q : Int32 → gw_H → Prop}
    (hq : ∀ h', rm_M h' σ → rq_F h0 h' → Q (sp_sh σ nd nh N nd).2 h') :
    ∀ (n k : Nat) (h : gw_H), k ≤ nd → nd ≤ k + n → rm_M h σ → rm_5 h σ → rq_F h0 h → wl_X6_shut_36 p1 Q (n + 1) (sp_sh σ nd nh N k).1 (sp_sh σ nd nh N k).2 (nI k) h := by
  have h8 := hW.1.1
  intro n
  induction n with
  | zero =>
    intro k h hk hn hM1 h5 hF
    have : k = nd := by omega
    subst this
    unfold wl_X6_shut_36
    exact br_t (by rw [hM1 0 (by omega), hW.2.1.1]; exact nI_le (Nat.le_refl _) (by omega)) (hq h hM1 hF)
  | succ n ih =>
    intro k h hk hn hM1 h5 hF
    unfold wl_X6_shut_36
    refine pk_le nd k (fun g => ?_) (fun g => ⟨fun o => ?_, fun o => ?_⟩) ((hM1 0 (by omega)).trans hW.2.1.1) rfl (by omega) (by omega)
    · have : k = nd := by omega
      subst this
      exact hq h hM1 hF
    · have o' : sp_op σ k = true := by
        rw [hM1 1 (by omega)] at o
        unfold sp_op
        exact Classical.byContradiction (fun z => o ((b_test0 (by omega)).mpr (by rw [Bool.not_eq_true] at z; exact z)))
      have hu : rm_M (gw_up h 2 1 ((h 2 1) &&& ((1 <<< (nI k &&& 31)) ^^^ -1))) (sp_td σ k) := by
        rw [← sp_tdc (by omega) o', hM1 1 (by omega)]
        exact hM1.up 1 _
      refine m_hb (hW.td g) (by omega) hu (h5.congr (gw_up_ne (by omega))) hN hp (fun h3 d1 d2 d3 => ?_)
      have nx := ih (k + 1) h3 (by omega) (by omega) d1 d2 (hF.trans ((rf2 (fun c hc => gw_up_ne hc)).trans d3))
      refine ⟨fun d => ?_, fun d => ?_⟩
      · unfold wk_X6_shut_100
        refine br_t d ?_
        unfold wk_X6_shut_114 wk_X6_shut_115
        rw [nI_1]
        have e : sp_sh σ nd nh N (k + 1) = sp_sh σ nd nh N k := sp_bs_f (and_ff (decide_eq_false (fun q => q d)))
        rw [e] at nx
        exact nx
      · unfold wk_X6_shut_100
        refine br_f d ?_
        unfold wk_X6_shut_114 wk_X6_shut_115
        rw [nI_1]
        have e : sp_sh σ nd nh N (k + 1) = (sp_shf σ nd nh N k, nI k) := sp_bs_t (by rw [o', Bool.true_and]; exact decide_eq_true d)
        rw [e] at nx
        exact nx
    · have o' : sp_op σ k = false := by
        rw [hM1 1 (by omega)] at o
        unfold sp_op
        exact (b_test0 (by omega)).mp o
      unfold wk_X6_shut_115
      rw [nI_1]
      have nx := ih (k + 1) h (by omega) (by omega) hM1 h5 hF
      have e : sp_sh σ nd nh N (k + 1) = sp_sh σ nd nh N k := sp_bs_f (by rw [o']; rfl)
      rw [e] at nx
      exact nx
theorem o_shut (R : RR hC hM) {p1 : Int32} : wp_X5_shut hC p1 (fun r hC' => wp_X6_shut hM p1 (rr_A r hC')) := by
  obtain ⟨σ, nd, ns, nh, hr, S⟩ := R
  have S : RS hC hM σ nd ns nh hr := S
  obtain ⟨hW, hh, hR, hM1, hX⟩ := id S
  unfold wp_X5_shut
  refine c_out ⟨fun c => ?_, fun c => S.rf (sp_outk c) (fun Q q => ?_)⟩
  · obtain ⟨N, -, hN, rfl⟩ := sp_outn (lo := 0) (hi := 60) rfl rfl (by omega) (by omega) c
    refine c_im hW hR hh hN rfl (fun h' a1 a2 a3 a4 => c_hv (hW.hn N (by omega)) a1 (Or.inl rfl) ⟨nd + 1, c_shul hW hh hN rfl (fun h2 b1 => ?_) nd 0 h' (by omega) (by omega) (rc_1_24 hR a4) rc_F.refl⟩)
    unfold wp_X6_shut
    refine m_wi (br_t c (m_beg hM1 (fun h1 d1 d2 d3 => m_hb hW (by omega) d1 d2 hN rfl (fun h3 f1 f2 f3 => ⟨nd + 1, m_shul hW hh hN rfl (fun h4 g1 g2 => ⟨rfl, S.q (a4.trans b1) g1 ((rf5 d3).trans (f3.trans g2))⟩) nd 0 h3 (by omega) (by omega) f1 f2 rq_F.refl⟩))))
  · unfold wp_X6_shut
    exact m_wi (br_f c q)
/-! seats -/
def sp_sw (σ : Nat → Int32) (a b : Nat) : Nat → Int32 := upd (upd σ (37 + 6 * a + 1) (sp_hd σ b 1)) (37 + 6 * b + 1) (sp_hd σ a 1)
theorem sp_WF.sw (hW : sp_WF σ nd ns nh hr) {a b : Nat} (ha : a < nh) (hb : b < nh) : sp_WF (sp_sw σ a b) nd ns nh hr :=
  (hW.pl a (hW.hw hb).2.1).pl b (hW.hw ha).2.1
theorem c_sw (hW : sp_WF σ nd ns nh hr) {h : gw_H} {b : Nat} (hR : rc_C b h σ nd ns nh) {p1 p2 : Int32} (i j : Nat) (e1 : p1 = nI i) (e2 : p2 = nI j) (hi : i < nh) (hj : j < nh) {Q : Int32 → gw_H → Prop} (hq : ∀ h', rc_C b h' (sp_sw σ i j) nd ns nh → rc_F b h h' → Q 0 h') : wp_X1_changePlaces h b p1 p2 Q := by
  have h6 := hW.1.2.2.1
  unfold wp_X1_changePlaces
  refine c_at i e1 (by omega) (by omega) (c_at j e2 (by omega) (by omega) (c_put i e1 (by omega) (by omega) (c_put j e2 (by omega) (by omega) (hq _ ?_ ((rc_F.up 11 (by omega) rfl).trans (rc_F.up 11 (by omega) rfl))))))
  rw [(hR.2.2.2 i hi).2.1, (hR.2.2.2 j hj).2.1]
  exact (hR.hput hW.1.1 hW.1.2.1 (k := 1) (by omega) rfl i _).hput hW.1.1 hW.1.2.1 (k := 1) (by omega) rfl j _
def sp_sef (σ : Nat → Int32) (nd nh N a : Nat) : Nat → Int32 := fun k => sp_hv (sp_hn nd nh N (sp_sw σ a (a + 1 + k))) (-1) nh
def sp_sei (σ : Nat → Int32) (nd nh N a : Nat) (s : Int32 × Int32) : Nat → Int32 × Int32 := sp_bs (fun k v => decide (¬ v ≤ sp_sef σ nd nh N a k)) (sp_sef σ nd nh N a) (fun k => 10 * nI a + nI (a + 1 + k)) s
def sp_se (σ : Nat → Int32) (nd nh N : Nat) : Nat → Int32 × Int32
  | 0 => (sp_hv (sp_hn nd nh N σ) (-1) nh, -9)
  | a + 1 => sp_sei σ nd nh N a (sp_se σ nd nh N a) (nh - (a + 1))
theorem c_seil (hW : sp_WF σ nd ns nh hr) (hh : hr ≤ 999) {N : Nat} (hN : N ≤ 60) {p1 : Int32} (hp : p1 = nI N) {h0 : gw_H} {Q : Int32 → gw_H → Prop} {K : Int32 → Int32 → Int32 → gw_H → Prop} {a : Nat} (ha : a < nh) {s : Int32 × Int32}
    (hq : ∀ h', rc_F 24 h0 h' → rc_C 1 h' σ nd ns nh → K (sp_sei σ nd nh N a s (nh - (a + 1))).1 (sp_sei σ nd nh N a s (nh - (a + 1))).2 (nI (a + 1)) h') :
    ∀ (n k : Nat) (h : gw_H), k ≤ nh - (a + 1) → nh - (a + 1) ≤ k + n → rc_C 1 h σ nd ns nh → rc_F 24 h0 h → wl_X5_seats_63 p1 K Q (n + 1) (sp_sei σ nd nh N a s k).1 (sp_sei σ nd nh N a s k).2 (nI a) (nI (a + 1 + k)) h := by
  have h6 := hW.1.2.2.1
  intro n
  induction n with
  | zero =>
    intro k h hk hn hR hF
    have : k = nh - (a + 1) := by omega
    subst this
    unfold wl_X5_seats_63
    rw [nI_1]
    exact br_t (by rw [(rr_e5 hW hR).2.2.1]; exact nI_le (by omega) (by omega)) (hq h hF hR)
  | succ n ih =>
    intro k h hk hn hR hF
    unfold wl_X5_seats_63
    rw [nI_1]
    refine pk_le nh (a + 1 + k) (fun g => ?_) (fun g => ?_) (rr_e5 hW hR).2.2.1 rfl (by omega) (by omega)
    · have : k = nh - (a + 1) := by omega
      subst this
      exact hq h hF hR
    · refine c_ta hW hR (by omega) (fun h1 a1 a2 a3 a4 => c_sw hW a1 a (a + 1 + k) rfl rfl ha g (fun h2 b1 b2 => c_phs' (hW.sw ha g) hN (by omega) hp b1 (fun h3 d1 d2 => c_hv ((hW.sw ha g).hn N (by omega)) d1 (Or.inl rfl) ?_)))
      have F := a4.trans (b2.trans d2)
      have nx := ih (k + 1) h3 (by omega) (by omega) (rc_1_24 hR F) (hF.trans F)
      refine ⟨fun d => ?_, fun d => ?_⟩
      · unfold wk_X5_seats_143
        rw [nI_1]
        have e : sp_sei σ nd nh N a s (k + 1) = sp_sei σ nd nh N a s k := sp_bs_f (decide_eq_false (fun q => q d))
        rw [e] at nx
        exact nx
      · unfold wk_X5_seats_143
        rw [nI_1]
        have e : sp_sei σ nd nh N a s (k + 1) = (sp_sef σ nd nh N a k, 10 * nI a + nI (a + 1 + k)) := sp_bs_t (decide_eq_true d)
        rw [e] at nx
        exact nx
theorem c_seol (hW : sp_WF σ nd ns nh hr) (hh : hr ≤ 999) {N : Nat} (hN : N ≤ 60) {p1 : Int32} (hp : p1 = nI N) {h0 : gw_H} {Q : Int32 → gw_H → Prop}
    (hq : ∀ h', rc_F 24 h0 h' → Q (sp_se σ nd nh N nh).2 h') :
    ∀ (n k : Nat) (h : gw_H), k ≤ nh → nh ≤ k + n → rc_C 1 h σ nd ns nh → rc_F 24 h0 h → wl_X5_seats_42 p1 Q (n + 1) (sp_se σ nd nh N k).1 (sp_se σ nd nh N k).2 (nI k) h := by
  have h6 := hW.1.2.2.1
  intro n
  induction n with
  | zero =>
    intro k h hk hn hR hF
    have : k = nh := by omega
    subst this
    unfold wl_X5_seats_42
    exact br_t (by rw [(rr_e5 hW hR).2.2.1]; exact nI_le (Nat.le_refl _) (by omega)) (hq h hF)
  | succ n ih =>
    intro k h hk hn hR hF
    unfold wl_X5_seats_42
    refine pk_le nh k (fun g => ?_) (fun g => ?_) (rr_e5 hW hR).2.2.1 rfl (by omega) (by omega)
    · have : k = nh := by omega
      subst this
      exact hq h hF
    · rw [nI_1]
      exact ⟨nh - (k + 1) + 1, c_seil hW hh hN hp g (s := sp_se σ nd nh N k) (fun h' b1 b2 => ih (k + 1) h' (by omega) (by omega) b2 b1) (nh - (k + 1)) 0 h (by omega) (by omega) hR hF⟩
theorem m_seil (hW : sp_WF σ nd ns nh hr) (hh : hr ≤ 999) {N : Nat} (hN : N ≤ 60) {p1 : Int32} (hp : p1 = nI N) {h0 : gw_H} {Q : Int32 → gw_H → Prop} {K : Int32 → Int32 → Int32 → gw_H → Prop} {a : Nat} (ha : a < nh) {s : Int32 × Int32}
    (hq : ∀ h', rm_M h' σ → rm_5 h' σ → rq_F h0 h' → K (sp_sei σ nd nh N a s (nh - (a + 1))).1 (sp_sei σ nd nh N a s (nh - (a + 1))).2 (nI (a + 1)) h') :
    ∀ (n k : Nat) (h : gw_H), k ≤ nh - (a + 1) → nh - (a + 1) ≤ k + n → rm_M h σ → rm_5 h σ → rq_F h0 h → wl_X6_seats_53 p1 K Q (n + 1) (sp_sei σ nd nh N a s k).1 (sp_sei σ nd nh N a s k).2 (nI a) (nI (a + 1 + k)) h := by
  have h6 := hW.1.2.2.1
  intro n
  induction n with
  | zero =>
    intro k h hk hn hM1 h5 hF
    have : k = nh - (a + 1) := by omega
    subst this
    unfold wl_X6_seats_53
    rw [nI_1]
    exact br_t (by rw [hM1 3 (by omega), hW.2.1.2.2.1]; exact nI_le (by omega) (by omega)) (hq h hM1 h5 hF)
  | succ n ih =>
    intro k h hk hn hM1 h5 hF
    unfold wl_X6_seats_53
    rw [nI_1]
    refine pk_le nh (a + 1 + k) (fun g => ?_) (fun g => ?_) ((hM1 3 (by omega)).trans hW.2.1.2.2.1) rfl (by omega) (by omega)
    · have : k = nh - (a + 1) := by omega
      subst this
      exact hq h hM1 h5 hF
    · refine m_at hM1 a 1 rfl rfl (by omega) (by omega) (m_at hM1 (a + 1 + k) 1 rfl rfl (by omega) (by omega) (m_pu a 1 rfl rfl (by omega) (by omega) (m_pu (a + 1 + k) 1 rfl rfl (by omega) (by omega) ?_)))
      refine m_hb (hW.sw ha g) (by omega) ((hM1.up _ _).up _ _) ((h5.congr (gw_up_ne (by omega))).congr (gw_up_ne (by omega))) hN hp (fun h3 d1 d2 d3 => ?_)
      have nx := ih (k + 1) h3 (by omega) (by omega) d1 d2 (hF.trans ((rf2 (fun c hc => by rw [gw_up_ne hc, gw_up_ne hc])).trans d3))
      refine ⟨fun d => ?_, fun d => ?_⟩
      · unfold wk_X6_seats_123
        refine br_t d ?_
        unfold wk_X6_seats_137
        rw [nI_1]
        have e : sp_sei σ nd nh N a s (k + 1) = sp_sei σ nd nh N a s k := sp_bs_f (decide_eq_false (fun q => q d))
        rw [e] at nx
        exact nx
      · unfold wk_X6_seats_123
        refine br_f d ?_
        unfold wk_X6_seats_137
        rw [nI_1]
        have e : sp_sei σ nd nh N a s (k + 1) = (sp_sef σ nd nh N a k, 10 * nI a + nI (a + 1 + k)) := sp_bs_t (decide_eq_true d)
        rw [e] at nx
        exact nx
theorem m_seol (hW : sp_WF σ nd ns nh hr) (hh : hr ≤ 999) {N : Nat} (hN : N ≤ 60) {p1 : Int32} (hp : p1 = nI N) {h0 : gw_H} {Q : Int32 → gw_H → Prop}
    (hq : ∀ h', rm_M h' σ → rq_F h0 h' → Q (sp_se σ nd nh N nh).2 h') :
    ∀ (n k : Nat) (h : gw_H), k ≤ nh → nh ≤ k + n → rm_M h σ → rm_5 h σ → rq_F h0 h → wl_X6_seats_36 p1 Q (n + 1) (sp_se σ nd nh N k).1 (sp_se σ nd nh N k).2 (nI k) h := by
  have h6 := hW.1.2.2.1
  intro n
  induction n with
  | zero =>
    intro k h hk hn hM1 h5 hF
    have : k = nh := by omega
    subst this
    unfold wl_X6_seats_36
    exact br_t (by rw [hM1 3 (by omega), hW.2.1.2.2.1]; exact nI_le (Nat.le_refl _) (by omega)) (hq h hM1 hF)
  | succ n ih =>
    intro k h hk hn hM1 h5 hF
    unfold wl_X6_seats_36
    refine pk_le nh k (fun g => ?_) (fun g => ?_) ((hM1 3 (by omega)).trans hW.2.1.2.2.1) rfl (by omega) (by omega)
    · have : k = nh := by omega
      subst this
      exact hq h hM1 hF
    · rw [nI_1]
      exact ⟨nh - (k + 1) + 1, m_seil hW hh hN hp g (s := sp_se σ nd nh N k) (fun h' b1 b2 b3 => ih (k + 1) h' (by omega) (by omega) b1 b2 b3) (nh - (k + 1)) 0 h (by omega) (by omega) hM1 h5 hF⟩
theorem o_seats (R : RR hC hM) {p1 : Int32} : wp_X5_seats hC p1 (fun r hC' => wp_X6_seats hM p1 (rr_A r hC')) := by
  obtain ⟨σ, nd, ns, nh, hr, S⟩ := R
  have S : RS hC hM σ nd ns nh hr := S
  obtain ⟨hW, hh, hR, hM1, hX⟩ := id S
  unfold wp_X5_seats
  refine c_out ⟨fun c => ?_, fun c => S.rf (sp_outk c) (fun Q q => ?_)⟩
  · obtain ⟨N, -, hN, rfl⟩ := sp_outn (lo := 0) (hi := 60) rfl rfl (by omega) (by omega) c
    refine c_im hW hR hh hN rfl (fun h' a1 a2 a3 a4 => c_hv (hW.hn N (by omega)) a1 (Or.inl rfl) ⟨nh + 1, c_seol hW hh hN rfl (fun h2 b1 => ?_) nh 0 h' (by omega) (by omega) (rc_1_24 hR a4) rc_F.refl⟩)
    unfold wp_X6_seats
    refine m_wi (br_t c (m_beg hM1 (fun h1 d1 d2 d3 => m_hb hW (by omega) d1 d2 hN rfl (fun h3 f1 f2 f3 => ⟨nh + 1, m_seol hW hh hN rfl (fun h4 g1 g2 => ⟨rfl, S.q (a4.trans b1) g1 ((rf5 d3).trans (f3.trans g2))⟩) nh 0 h3 (by omega) (by omega) f1 f2 rq_F.refl⟩))))
  · unfold wp_X6_seats
    exact m_wi (br_f c q)
end OPS8
