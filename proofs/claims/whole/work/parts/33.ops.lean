/-! the best of several -/
def sp_bs (P : Nat → Int32 → Bool) (f lab : Nat → Int32) (s : Int32 × Int32) : Nat → Int32 × Int32
  | 0 => s
  | k + 1 => if P k (sp_bs P f lab s k).1 then (f k, lab k) else sp_bs P f lab s k
section OPS5
variable {hC hM : gw_H} {σ : Nat → Int32} {nd ns nh hr : Nat}
theorem sp_bs_t {P : Nat → Int32 → Bool} {f lab : Nat → Int32} {s : Int32 × Int32} {k : Nat} (h : P k (sp_bs P f lab s k).1 = true) : sp_bs P f lab s (k + 1) = (f k, lab k) := by rw [sp_bs, if_pos h]
theorem sp_bs_f {P : Nat → Int32 → Bool} {f lab : Nat → Int32} {s : Int32 × Int32} {k : Nat} (h : P k (sp_bs P f lab s k).1 = false) : sp_bs P f lab s (k + 1) = sp_bs P f lab s k := by rw [sp_bs, h]; rfl
theorem sp_hvn (σ : Nat → Int32) (s : Int32) : ∀ k, ∃ m, m ≤ k ∧ sp_hv σ s k = nI m := by
  intro k
  induction k with
  | zero => exact ⟨0, by omega, rfl⟩
  | succ k ih =>
    obtain ⟨m, hm, e⟩ := ih
    rw [sp_hv, e]
    have a1 : ∃ m', m' ≤ k + 1 ∧ nI m + 1 = nI m' := ⟨m + 1, by omega, nI_1 m⟩
    have a0 : ∃ m', m' ≤ k + 1 ∧ nI m + 0 = nI m' := ⟨m, by omega, nI_add m 0⟩
    split
    · split
      · exact a1
      · exact a0
    · split
      · exact a1
      · exact a0
/-- greater than what was -/
def sp_gr (f : Nat → Int32) (k : Nat) (v : Int32) : Bool := decide (¬ f k ≤ v)
def sp_mof (σ : Nat → Int32) (nd nh : Nat) (s : Int32) : Nat → Int32 := fun n => sp_hv (sp_hn nd nh n σ) s nh
def sp_mo (σ : Nat → Int32) (nd nh : Nat) (s : Int32) : Nat → Int32 × Int32 := sp_bs (sp_gr (sp_mof σ nd nh s)) (sp_mof σ nd nh s) nI (-9, -9)
theorem sp_n9le {n : Nat} (h : n < 2 ^ 31) : ¬ nI n ≤ -9 := fun q => absurd (Int32.le_trans (nI_pos' h) q) n9_neg
theorem sp_mo1 (h6 : nh ≤ 6) {s : Int32} : sp_mo σ nd nh s 1 = (sp_mof σ nd nh s 0, nI 0) := by
  unfold sp_mo
  refine sp_bs_t ?_
  obtain ⟨m, hm, e⟩ := sp_hvn σ s nh
  unfold sp_gr
  refine decide_eq_true ?_
  show ¬ sp_hv σ s nh ≤ -9
  rw [e]
  exact sp_n9le (by omega)
theorem c_mosl (hW : sp_WF σ nd ns nh hr) (hh : hr ≤ 999) {N : Nat} (hN : N ≤ 60) {p1 p3 : Int32} (hp : p1 = -1 ∨ 0 ≤ p1) {h0 : gw_H} {Q : Int32 → gw_H → Prop}
    (hq : ∀ h', rc_F 24 h0 h' → Q (if p3 = 0 then (sp_mo σ nd nh p1 (N + 1)).2 else (sp_mo σ nd nh p1 (N + 1)).1) h') :
    ∀ (n k : Nat) (h : gw_H), k ≤ N → N ≤ k + n → rc_C 24 h (sp_hn nd nh k σ) nd ns nh → rc_F 24 h0 h → wl_X5_most_66 p1 (nI N) p3 Q (n + 1) (sp_mo σ nd nh p1 (k + 1)).1 (sp_mo σ nd nh p1 (k + 1)).2 (nI (k + 1)) h := by
  have fin : ∀ h, rc_F 24 h0 h → ((¬ p3 = 0 → Q (sp_mo σ nd nh p1 (N + 1)).1 h) ∧ (p3 = 0 → Q (sp_mo σ nd nh p1 (N + 1)).2 h)) := by
    intro h hF
    have := hq h hF
    refine ⟨fun c => ?_, fun c => ?_⟩
    · rw [if_neg c] at this; exact this
    · rw [if_pos c] at this; exact this
  intro n
  induction n with
  | zero =>
    intro k h hk hn hR hF
    have : k = N := by omega
    subst this
    unfold wl_X5_most_66
    exact br_t (nI_lt (by omega) (by omega)) (fin h hF)
  | succ n ih =>
    intro k h hk hn hR hF
    unfold wl_X5_most_66
    refine pk_lt N (k + 1) (fun g => ?_) (fun g => ?_) rfl rfl (by omega) (by omega)
    · have : k = N := by omega
      subst this
      exact fin h hF
    · refine c_hour' (hW.hn k (by omega)) hR (fun h' a1 a2 => c_hv (hW.hn (k + 1) (by omega)) a1 hp ?_)
      have nx := ih (k + 1) h' (by omega) (by omega) a1 (hF.trans a2)
      refine ⟨fun c => ?_, fun c => ?_⟩
      · unfold wk_X5_most_108
        rw [nI_1]
        have e : sp_mo σ nd nh p1 (k + 1 + 1) = sp_mo σ nd nh p1 (k + 1) := sp_bs_f (by unfold sp_gr; exact decide_eq_false (fun q => q c))
        rw [e] at nx
        exact nx
      · unfold wk_X5_most_108
        have e : sp_mo σ nd nh p1 (k + 1 + 1) = (sp_mof σ nd nh p1 (k + 1), nI (k + 1)) := sp_bs_t (by unfold sp_gr; exact decide_eq_true c)
        rw [e] at nx
        rw [nI_1]
        exact nx
theorem m_mosl (hW : sp_WF σ nd ns nh hr) (hh : hr ≤ 999) {N : Nat} (hN : N ≤ 60) {p1 p3 : Int32} {h0 : gw_H} {Q : Int32 → gw_H → Prop}
    (hq : ∀ h', rm_M h' σ → rq_F h0 h' → Q (if p3 = 0 then (sp_mo σ nd nh p1 (N + 1)).2 else (sp_mo σ nd nh p1 (N + 1)).1) h') :
    ∀ (n k : Nat) (h : gw_H), k ≤ N + 1 → N + 1 ≤ k + n → rm_M h (sp_hn nd nh k σ) → rm_5 h σ → rq_F h0 h → wl_X6_most_69 p1 (nI N) p3 Q (n + 1) (sp_mo σ nd nh p1 k).2 (sp_mo σ nd nh p1 k).1 (nI k) h := by
  have fin : ∀ h, rm_5 h σ → rq_F h0 h → wp_X6_ends h (fun _ h_8 => ((¬ p3 = 0 → Q (sp_mo σ nd nh p1 (N + 1)).1 h_8) ∧ (p3 = 0 → Q (sp_mo σ nd nh p1 (N + 1)).2 h_8))) := by
    intro h h5 hF
    refine m_end h5 (fun h' a1 a2 a3 => ?_)
    have := hq h' a1 (hF.trans (rf2 a3))
    refine ⟨fun c => ?_, fun c => ?_⟩
    · rw [if_neg c] at this; exact this
    · rw [if_pos c] at this; exact this
  intro n
  induction n with
  | zero =>
    intro k h hk hn hM1 h5 hF
    have : k = N + 1 := by omega
    subst this
    unfold wl_X6_most_69
    exact br_t (nI_lt (by omega) (by omega)) (fin h h5 hF)
  | succ n ih =>
    intro k h hk hn hM1 h5 hF
    unfold wl_X6_most_69
    refine pk_lt N k (fun g => ?_) (fun g => ?_) rfl rfl (by omega) (by omega)
    · have : k = N + 1 := by omega
      subst this
      exact fin h h5 hF
    · refine m_hv (hW.hn k (by omega)) hM1 ?_
      have nx : ∀ h', rm_M h' (sp_hn nd nh (k + 1) σ) → rm_F h h' → wl_X6_most_69 p1 (nI N) p3 Q (n + 1) (sp_mo σ nd nh p1 (k + 1)).2 (sp_mo σ nd nh p1 (k + 1)).1 (nI (k + 1)) h' := fun h' a1 a2 => ih (k + 1) h' (by omega) (by omega) a1 (h5.F a2) (hF.trans a2.q)
      refine ⟨fun c => ?_, fun c => ?_⟩
      · unfold wk_X6_most_96
        refine br_t c ?_
        unfold wk_X6_most_112
        refine m_hour' (hW.hn k (by omega)) hM1 (fun h' a1 a2 => ?_)
        rw [nI_1]
        have e : sp_mo σ nd nh p1 (k + 1) = sp_mo σ nd nh p1 k := sp_bs_f (by unfold sp_gr; exact decide_eq_false (fun q => q c))
        have nx' := nx h' a1 a2
        rw [e] at nx'
        exact nx'
      · unfold wk_X6_most_96
        refine br_f c ?_
        unfold wk_X6_most_112
        refine m_hour' (hW.hn k (by omega)) hM1 (fun h' a1 a2 => ?_)
        rw [nI_1]
        have e : sp_mo σ nd nh p1 (k + 1) = (sp_mof σ nd nh p1 k, nI k) := sp_bs_t (by unfold sp_gr; exact decide_eq_true c)
        have nx' := nx h' a1 a2
        rw [e] at nx'
        exact nx'
theorem o_most (R : RR hC hM) {p1 p2 p3 : Int32} : wp_X5_most hC p1 p2 p3 (fun r hC' => wp_X6_most hM p1 p2 p3 (rr_A r hC')) := by
  obtain ⟨σ, nd, ns, nh, hr, S⟩ := R
  have S : RS hC hM σ nd ns nh hr := S
  obtain ⟨hW, hh, hR, hM1, hX⟩ := id S
  have h5 := hW.1.2.1
  have h6 := hW.1.2.2.1
  obtain ⟨e1, e5, e9, -⟩ := rr_e5 hW hR
  unfold wp_X5_most
  refine c_sah e5 h5 (fun c1 c => bn_f rz1 ?_) (fun hs => ?_)
  · unfold wk_X5_most_24
    refine br_f rz1 (S.rf rk1 (fun Q q => ?_))
    unfold wp_X6_most
    refine br_f c1 (m_is hW hM1 (fun _ => br_t rfl ?_) (fun j hj e => c_nr e hj (by omega) c))
    unfold wk_X6_most_19
    refine m_wr (fun _ => bn_f rz1 ?_) (fun z => absurd rfl z)
    unfold wk_X6_most_42
    exact br_f rz1 q
  · have md : ∀ {Q : Int32 → gw_H → Prop}, ((¬ (sp_out p2 0 60) = 0 → (wk_X6_most_42 p1 p2 p3 Q (sp_out p2 0 60) hM)) ∧ ((sp_out p2 0 60) = 0 → (wp_X6_isIn hM p3 2 (fun r_20 h_19 => ((¬ r_20 = 0 → (wk_X6_most_42 p1 p2 p3 Q (sp_out p2 0 60) h_19)) ∧ (r_20 = 0 → (wk_X6_most_42 p1 p2 p3 Q (-2) h_19))))))) → wp_X6_most hM p1 p2 p3 Q := by
      intro Q q
      have q' : wk_X6_most_14 p1 p2 p3 Q hM := by
        unfold wk_X6_most_14 wk_X6_most_19
        exact m_wr (fun z => absurd z rr_dec1) (fun _ => q)
      unfold wp_X6_most
      refine ⟨fun _ => q', fun c1 => m_is hW hM1 (fun c => ?_) (fun _ _ _ => br_f rr_dec1 q')⟩
      rcases hs with z | ⟨k, hk, ek⟩
      · exact absurd z c1
      · exact c_nr ek hk (by omega) c
    have hp : p1 = -1 ∨ 0 ≤ p1 := hs.imp id (fun ⟨k, hk, ek⟩ => by rw [ek]; exact nI_pos' (by omega))
    refine ⟨fun c => ?_, fun c => ?_⟩
    · unfold wk_X5_most_24
      refine br_f c (S.rf (sp_outk c) (fun Q q => md (bn_f c ?_)))
      unfold wk_X6_most_42
      exact br_f c q
    · obtain ⟨N, -, hN, rfl⟩ := sp_outn (lo := 0) (hi := 60) rfl rfl (by omega) (by omega) c
      refine c_nei (fun q => br_t rfl ?_) (fun q1 q2 => br_f rr_dec1 ?_)
      · obtain ⟨k, hk, rfl⟩ := c_p2 q
        unfold wk_X5_most_24
        refine br_t c (c_ta hW hR (by omega) (fun h' a1 a2 a3 a4 => c_hv hW a1 hp ?_))
        have L := c_mosl hW hh hN (p1 := p1) (p3 := nI k) hp (h0 := h') (Q := fun r hC' => wp_X6_most hM p1 (nI N) (nI k) (rr_A r hC')) (fun h2 d1 => md (bn_t c (m_p2 (fun z1 z2 => ?_) (fun _ _ _ => bn_f rr_dec1 ?_)))) N 0 h' (by omega) (by omega) a1 rc_F.refl
        · rw [sp_mo1 h6] at L
          exact ⟨N + 1, L⟩
        · have : k = 0 ∨ k = 1 := by omega
          rcases this with rfl | rfl
          · exact absurd rfl z1
          · exact absurd rfl z2
        · unfold wk_X6_most_42
          exact br_t c (m_beg hM1 (fun h1 b1 b2 b3 => ⟨N + 2, m_mosl hW hh hN (fun h3 f1 f2 => ⟨rfl, S.q (a4.trans d1) f1 ((rf5 b3).trans f2)⟩) (N + 1) 0 h1 (by omega) (by omega) b1 b2 rq_F.refl⟩))
      · unfold wk_X5_most_24
        refine br_f rz2 (S.rf rk2 (fun Q q => md (bn_t c (m_p2 (fun _ _ => bn_t rfl ?_) (fun k hk ek => ?_)))))
        · unfold wk_X6_most_42
          exact br_f rz2 q
        · have : k = 0 ∨ k = 1 := by omega
          rcases this with rfl | rfl
          · exact absurd ek q1
          · exact absurd ek q2
/-- which song most have -/
def sp_laf (σ : Nat → Int32) (nh : Nat) : Nat → Int32 := fun i => sp_hv σ (nI i) nh
def sp_la (σ : Nat → Int32) (nh : Nat) : Nat → Int32 × Int32 := sp_bs (sp_gr (sp_laf σ nh)) (sp_laf σ nh) nI (0, -9)
theorem c_lasl {hr' : Nat} (hW : sp_WF σ nd ns nh hr') {p1 : Int32} {h : gw_H} {Q : Int32 → gw_H → Prop} (hR : rc_C 24 h σ nd ns nh) (hq : Q (sp_la σ nh ns).2 h) :
    ∀ (n k : Nat), k ≤ ns → ns ≤ k + n → wl_X5_lasts_32 p1 Q (n + 1) (sp_la σ nh k).1 (sp_la σ nh k).2 (nI k) h := by
  have h5 := hW.1.2.1
  have e5 : h 29 3 = nI ns := (rr_e5 hW hR).2.1
  intro n
  induction n with
  | zero =>
    intro k hk hn
    have : k = ns := by omega
    subst this
    unfold wl_X5_lasts_32
    exact br_t (by rw [e5]; exact nI_le (Nat.le_refl _) (by omega)) hq
  | succ n ih =>
    intro k hk hn
    unfold wl_X5_lasts_32
    refine pk_le ns k (fun g => ?_) (fun g => ?_) e5 rfl (by omega) (by omega)
    · have : k = ns := by omega
      subst this
      exact hq
    · refine c_hv hW hR (Or.inr (nI_pos' (by omega))) ?_
      have nx := ih (k + 1) (by omega) (by omega)
      refine ⟨fun c => ?_, fun c => ?_⟩
      · unfold wk_X5_lasts_74
        rw [nI_1]
        have e : sp_la σ nh (k + 1) = sp_la σ nh k := sp_bs_f (by unfold sp_gr; exact decide_eq_false (fun q => q c))
        rw [e] at nx
        exact nx
      · unfold wk_X5_lasts_74
        have e : sp_la σ nh (k + 1) = (sp_laf σ nh k, nI k) := sp_bs_t (by unfold sp_gr; exact decide_eq_true c)
        rw [e] at nx
        rw [nI_1]
        exact nx
theorem m_lasl {τ : Nat → Int32} {hr' : Nat} (hW : sp_WF σ nd ns nh hr') {p1 : Int32} {h : gw_H} {Q : Int32 → gw_H → Prop} (hM1 : rm_M h σ) (h5' : rm_5 h τ) (hq : ∀ h', rm_M h' τ → rq_F h h' → Q (sp_la σ nh ns).2 h') :
    ∀ (n k : Nat), k ≤ ns → ns ≤ k + n → wl_X6_lasts_36 p1 Q (n + 1) (sp_la σ nh k).2 (sp_la σ nh k).1 (nI k) h := by
  have h5 := hW.1.2.1
  have e5 : h 2 2 = nI ns := (hM1 2 (by omega)).trans hW.2.1.2.1
  have fin : wp_X6_ends h (fun _ h_7 => Q (sp_la σ nh ns).2 h_7) := m_end h5' (fun h' a1 a2 a3 => hq h' a1 (rf2 a3))
  intro n
  induction n with
  | zero =>
    intro k hk hn
    have : k = ns := by omega
    subst this
    unfold wl_X6_lasts_36
    exact br_t (by rw [e5]; exact nI_le (Nat.le_refl _) (by omega)) fin
  | succ n ih =>
    intro k hk hn
    unfold wl_X6_lasts_36
    refine pk_le ns k (fun g => ?_) (fun g => ?_) e5 rfl (by omega) (by omega)
    · have : k = ns := by omega
      subst this
      exact fin
    · refine m_hv hW hM1 ?_
      have nx := ih (k + 1) (by omega) (by omega)
      refine ⟨fun c => ?_, fun c => ?_⟩
      · unfold wk_X6_lasts_64
        refine m_hv hW hM1 (br_t c ?_)
        unfold wk_X6_lasts_87
        rw [nI_1]
        have e : sp_la σ nh (k + 1) = sp_la σ nh k := sp_bs_f (by unfold sp_gr; exact decide_eq_false (fun q => q c))
        rw [e] at nx
        exact nx
      · unfold wk_X6_lasts_64
        refine m_hv hW hM1 (br_f c (m_hv hW hM1 ?_))
        unfold wk_X6_lasts_87
        have e : sp_la σ nh (k + 1) = (sp_laf σ nh k, nI k) := sp_bs_t (by unfold sp_gr; exact decide_eq_true c)
        rw [e] at nx
        rw [nI_1]
        exact nx
theorem o_lasts (R : RR hC hM) {p1 : Int32} : wp_X5_lasts hC p1 (fun r hC' => wp_X6_lasts hM p1 (rr_A r hC')) := by
  obtain ⟨σ, nd, ns, nh, hr, S⟩ := R
  have S : RS hC hM σ nd ns nh hr := S
  obtain ⟨hW, hh, hR, hM1, hX⟩ := id S
  unfold wp_X5_lasts
  refine c_out ⟨fun c => ?_, fun c => S.rf (sp_outk c) (fun Q q => ?_)⟩
  · obtain ⟨N, -, hN, rfl⟩ := sp_outn (lo := 0) (hi := 60) rfl rfl (by omega) (by omega) c
    refine c_im hW hR hh hN rfl (fun h' a1 a2 a3 a4 => ⟨ns + 1, c_lasl (hW.hn N (by omega)) a1 ?_ ns 0 (by omega) (by omega)⟩)
    unfold wp_X6_lasts
    refine m_wi (br_t c (m_beg hM1 (fun h1 b1 b2 b3 => m_phs' hW hN (by omega) rfl b1 (fun h2 d1 d2 => ⟨ns + 1, m_lasl (hW.hn N (by omega)) d1 (b2.F d2) (fun h3 f1 f2 => ⟨rfl, S.q a4 f1 ((rf5 b3).trans (d2.q.trans f2))⟩) ns 0 (by omega) (by omega)⟩))))
  · unfold wp_X6_lasts
    exact m_wi (br_f c q)
theorem o_wb (R : RR hC hM) (w : Nat) (hw : w < 2) {p1 p2 : Int32} : wp_X5_headAndHours hC p1 p2 (fun r_2 h_1 => ((r_2 = 0 → (wp_X5_imagine h_1 p2 (fun _ h_4 => (wp_X5_at h_4 (40 + w) 6 p1 (fun r hC' => wp_X6_wentBy hM p1 p2 (nI w) (rr_A r hC')))))) ∧ (¬ r_2 = 0 → (wp_X5_refuse h_1 r_2 (fun r hC' => wp_X6_wentBy hM p1 p2 (nI w) (rr_A r hC')))))) := by
  obtain ⟨σ, nd, ns, nh, hr, S⟩ := R
  have S : RS hC hM σ nd ns nh hr := S
  obtain ⟨hW, hh, hR, hM1, hX⟩ := id S
  have h6 := hW.1.2.2.1
  obtain ⟨e1, e5, e9, -⟩ := rr_e5 hW hR
  refine c_hah e9 h6 (fun c => br_f rz1 (S.rf rk1 (fun Q q => ?_))) (fun j hj e => ⟨fun c => ?_, fun c => S.rf (sp_outk c) (fun Q q => ?_)⟩)
  · unfold wp_X6_wentBy
    exact m_hw hW hM1 (fun _ => br_f rz1 q) (fun j hj e => c_nr e hj (by omega) c)
  · obtain ⟨N, -, hN, rfl⟩ := sp_outn (lo := 0) (hi := 60) rfl rfl (by omega) (by omega) c
    refine c_im hW hR hh hN rfl (fun h' a1 a2 a3 a4 => c_at j e (by omega) (by omega) ?_)
    unfold wp_X6_wentBy
    refine m_hw hW hM1 (fun c => c_nr e hj (by omega) c) (fun _ _ _ => br_t c (m_sta hM1 h6 (fun h1 b1 b2 b3 b4 => m_phs hW hN (by omega) rfl b1 b3 (fun h2 d1 d2 d3 => m_at d1 j 3 e rfl (by omega) (by omega) ?_))))
    have fin : ∀ v, h' (40 + w) j = v → wk_X6_wentBy_66 p1 (nI N) (nI w) (rr_A (h' (40 + w) j) h') v h2 := by
      intro v hv
      unfold wk_X6_wentBy_66
      exact m_end (b2.F d3) (fun h3 f1 f2 f3 => ⟨hv, S.q a4 f1 (b4.trans (d3.q.trans (rf2 f3)))⟩)
    have hw' : w = 0 ∨ w = 1 := by omega
    subst e
    refine br_c (fun g => ?_) (fun g => fin _ ?_)
    · obtain ⟨g1, g2⟩ := a2 j hj g
      obtain ⟨k1, k2⟩ := d2 j hj
      rcases hw' with rfl | rfl
      · refine br_t rfl ⟨vp_in_nI (by omega) (by omega), ?_⟩
        rw [nI_clamp (by omega)]
        exact fin _ (g1.trans k1.symm)
      · refine br_f (by decide) ⟨vp_in_nI (by omega) (by omega), ?_⟩
        rw [nI_clamp (by omega)]
        exact fin _ (g2.trans k2.symm)
    · rcases (hW.hn N (by omega)).son hj with z | ⟨i, hi, z⟩
      · obtain ⟨g1, g2⟩ := a3 j hj z
        rcases hw' with rfl | rfl
        · exact g1
        · exact g2
      · have h5 := hW.1.2.1
        exact absurd (by rw [z]; exact nI_pos' (by omega)) g
  · unfold wp_X6_wentBy
    exact m_hw hW hM1 (fun c => c_nr e hj (by omega) c) (fun _ _ _ => br_f c q)
theorem o_from (R : RR hC hM) {p1 p2 : Int32} : wp_X5_from hC p1 p2 (fun r hC' => wp_X6_from hM p1 p2 (rr_A r hC')) := by
  unfold wp_X5_from wp_X6_from
  exact o_wb R 0 (by omega)
theorem o_first (R : RR hC hM) {p1 p2 : Int32} : wp_X5_first hC p1 p2 (fun r hC' => wp_X6_first hM p1 p2 (rr_A r hC')) := by
  unfold wp_X5_first wp_X6_first
  exact o_wb R 1 (by omega)
end OPS5
