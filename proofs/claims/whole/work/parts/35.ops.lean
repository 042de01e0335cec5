theorem and_ff {a b : Bool} (h : b = false) : (a && b) = false := by rw [h, Bool.and_false]
section OPS7
variable {hC hM : gw_H} {σ τ : Nat → Int32} {nd ns nh hr ns' : Nat}
/-! instead -/
def sp_inf (σ : Nat → Int32) (nd nh j : Nat) : Nat → Int32 := fun k => sp_rh 61 (sp_gt σ j (nI k)) nd nh j
def sp_in (σ : Nat → Int32) (nd nh j : Nat) : Nat → Int32 × Int32 := sp_bs (fun k v => decide (¬ nI k = sp_hd σ j 3) && decide (¬ v ≤ sp_inf σ nd nh j k)) (sp_inf σ nd nh j) nI (sp_rh 61 σ nd nh j, -9)
theorem sp_rh_v (τ : Nat → Int32) (nd nh j : Nat) : sp_v61 (sp_rh 61 τ nd nh j) := by
  rcases sp_rh_cs τ nd nh j with ⟨q, -⟩ | ⟨m, hm, q, -⟩
  · exact Or.inl q
  · exact Or.inr ⟨m, hm, q⟩
theorem sp_in_v (σ : Nat → Int32) (nd nh j : Nat) : ∀ k, sp_v61 (sp_in σ nd nh j k).1 := by
  intro k
  induction k with
  | zero => exact sp_rh_v σ nd nh j
  | succ k ih =>
    unfold sp_in at ih ⊢
    rw [sp_bs]
    split
    · exact sp_rh_v _ nd nh j
    · exact ih
theorem sp_ml_rh (τ : Nat → Int32) (nd nh j : Nat) : sp_ml (sp_rh 61 τ nd nh j) = sp_rh (-9) τ nd nh j := by
  rcases sp_rh_cs τ nd nh j with ⟨q, q9⟩ | ⟨m, hm, q, q9⟩
  · rw [q, q9]; rfl
  · rw [q, q9]; exact sp_mln hm
theorem c_insl (hW : sp_WF σ nd ns nh hr) (hh : hr ≤ 999) {p1 : Int32} (j : Nat) (e : p1 = nI j) (hj : j < nh) {h0 : gw_H} {Q : Int32 → gw_H → Prop}
    (hq : ∀ h', rc_F 24 h0 h' → Q (sp_in σ nd nh j ns).2 h') :
    ∀ (n k : Nat) (h : gw_H), k ≤ ns → ns ≤ k + n → rc_C 1 h σ nd ns nh → rc_F 24 h0 h → wl_X5_instead_80 p1 Q (n + 1) (sp_hd σ j 3) (sp_in σ nd nh j k).1 (sp_in σ nd nh j k).2 (nI k) h := by
  have h5 := hW.1.2.1
  intro n
  induction n with
  | zero =>
    intro k h hk hn hR hF
    have : k = ns := by omega
    subst this
    unfold wl_X5_instead_80
    exact br_t (by rw [(rr_e5 hW hR).2.1]; exact nI_le (Nat.le_refl _) (by omega)) (hq h hF)
  | succ n ih =>
    intro k h hk hn hR hF
    unfold wl_X5_instead_80
    refine pk_le ns k (fun g => ?_) (fun g => ⟨fun c => ?_, fun c => ?_⟩) (rr_e5 hW hR).2.1 rfl (by omega) (by omega)
    · have : k = ns := by omega
      subst this
      exact hq h hF
    · unfold wk_X5_instead_142
      rw [nI_1]
      have nx := ih (k + 1) h (by omega) (by omega) hR hF
      have e : sp_in σ nd nh j (k + 1) = sp_in σ nd nh j k := sp_bs_f (by rw [decide_eq_false (fun q => q c)]; rfl)
      rw [e] at nx
      exact nx
    · refine c_ta hW hR (by omega) (fun h1 a1 a2 a3 a4 => c_gv hW a1 j e hj (fun c => c_nr rfl g (by omega) c) (fun i hi ei h2 b1 b2 => ?_))
      have : i = k := ((nI_eq (by omega) (by omega)).mp ei).symm
      subst this
      refine c_hu_ (hW.gt j (Or.inr ⟨i, hi, rfl⟩)) hh j e hj b1 (fun h3 d1 => ?_)
      have F := a4.trans (b2.trans d1)
      have nx := ih (i + 1) h3 (by omega) (by omega) (rc_1_24 hR F) (hF.trans F)
      refine ⟨fun d => ?_, fun d => ?_⟩
      · unfold wk_X5_instead_142
        rw [nI_1]
        have e : sp_in σ nd nh j (i + 1) = sp_in σ nd nh j i := sp_bs_f (and_ff (decide_eq_false (fun q => q d)))
        rw [e] at nx
        exact nx
      · unfold wk_X5_instead_142
        rw [nI_1]
        have e : sp_in σ nd nh j (i + 1) = (sp_inf σ nd nh j i, nI i) := sp_bs_t (by rw [decide_eq_true c, Bool.true_and]; exact decide_eq_true d)
        rw [e] at nx
        exact nx
theorem m_insl (hW : sp_WF σ nd ns nh hr) (hh : hr ≤ 999) {p1 : Int32} (j : Nat) (e : p1 = nI j) (hj : j < nh) {h0 : gw_H} {Q : Int32 → gw_H → Prop}
    (hq : ∀ h', rm_M h' σ → rq_F h0 h' → Q (sp_in σ nd nh j ns).2 h') :
    ∀ (n k : Nat) (h : gw_H), k ≤ ns → ns ≤ k + n → rm_M h σ → rm_5 h σ → rq_F h0 h → wl_X6_instead_63 p1 Q (n + 1) (sp_hd σ j 3) (sp_ml (sp_in σ nd nh j k).1) (sp_in σ nd nh j k).2 (nI k) h := by
  have h5 := hW.1.2.1
  have h6 := hW.1.2.2.1
  intro n
  induction n with
  | zero =>
    intro k h hk hn hM1 h5' hF
    have : k = ns := by omega
    subst this
    unfold wl_X6_instead_63
    exact br_t (by rw [hM1 2 (by omega), hW.2.1.2.1]; exact nI_le (Nat.le_refl _) (by omega)) (hq h hM1 hF)
  | succ n ih =>
    intro k h hk hn hM1 h5' hF
    unfold wl_X6_instead_63
    refine pk_le ns k (fun g => ?_) (fun g => ⟨fun c => ?_, fun c => ?_⟩) ((hM1 2 (by omega)).trans hW.2.1.2.1) rfl (by omega) (by omega)
    · have : k = ns := by omega
      subst this
      exact hq h hM1 hF
    · refine m_gt hW hM1 j e (by omega) (Or.inr (Or.inr ⟨k, g, rfl⟩)) (fun h2 b1 b2 => m_hu_ (hW.gt j (Or.inr ⟨k, g, rfl⟩)) hh j e hj b1 (h5'.congr (b2 5 (by omega))) (fun h3 d1 d2 d3 => ?_))
      have nx := ih (k + 1) h3 (by omega) (by omega) d1 d2 (hF.trans ((rf2 b2).trans d3))
      refine rid_step (sp_in_v σ nd nh j k) (sp_rh_cs (sp_gt σ j (nI k)) nd nh j) (fun d => ?_) (fun d => ?_)
      · unfold wk_X6_instead_125
        rw [nI_1]
        have e : sp_in σ nd nh j (k + 1) = sp_in σ nd nh j k := sp_bs_f (and_ff (decide_eq_false (fun q => q d)))
        rw [e] at nx
        exact nx
      · unfold wk_X6_instead_117 wk_X6_instead_125
        rw [nI_1]
        have e : sp_in σ nd nh j (k + 1) = (sp_inf σ nd nh j k, nI k) := sp_bs_t (by rw [decide_eq_true c, Bool.true_and]; exact decide_eq_true d)
        rw [e] at nx
        rw [← sp_ml_rh]
        exact nx
    · unfold wk_X6_instead_125
      rw [nI_1]
      have nx := ih (k + 1) h (by omega) (by omega) hM1 h5' hF
      have e : sp_in σ nd nh j (k + 1) = sp_in σ nd nh j k := sp_bs_f (by rw [decide_eq_false (fun q => q c)]; rfl)
      rw [e] at nx
      exact nx
theorem o_instead (R : RR hC hM) {p1 : Int32} : wp_X5_instead hC p1 (fun r hC' => wp_X6_instead hM p1 (rr_A r hC')) := by
  obtain ⟨σ, nd, ns, nh, hr, S⟩ := R
  have S : RS hC hM σ nd ns nh hr := S
  obtain ⟨hW, hh, hR, hM1, hX⟩ := id S
  have h6 := hW.1.2.2.1
  obtain ⟨e1, e5, e9, -⟩ := rr_e5 hW hR
  have rfz : ∀ {p : Int32}, ¬ p = 0 → ∀ {Q : Int32 → gw_H → Prop}, wp_X6_refuse hM p Q → wk_X6_instead_27 p1 Q p hM := by
    intro p hp Q q
    unfold wk_X6_instead_27
    exact br_f hp q
  unfold wp_X5_instead
  refine c_hh (b := 1) e9 (by omega) (fun c => bn_t rfl (S.rf rk1 (fun Q q => ?_))) (fun j hj e => bn_f rr_dec1 (c_hs hW hR j e hj ?_))
  · unfold wp_X6_instead
    exact m_ih hW hM1 (fun _ => bn_t rfl (rfz rz1 q)) (fun j hj e => c_nr e hj (by omega) c)
  · have md : ∀ {Q : Int32 → gw_H → Prop}, ((0 ≤ (sp_hd σ j 3) → (wk_X6_instead_27 p1 Q 0 hM)) ∧ (¬ 0 ≤ (sp_hd σ j 3) → (wk_X6_instead_27 p1 Q (-3) hM))) → wp_X6_instead hM p1 Q := by
      intro Q g
      unfold wp_X6_instead
      exact m_ih hW hM1 (fun c => c_nr e hj (by omega) c) (fun _ _ _ => bn_f rr_dec1 (m_at hM1 j 3 e rfl (by omega) (by omega) g))
    by_cases c : 0 ≤ sp_hd σ j 3
    · rw [if_pos c]
      refine bn_f rr_dec1 (c_at j e (by omega) (by omega) ?_)
      rw [show hC 14 j = sp_hd σ j 3 from (hR.2.2.2 j hj).2.2.2.1]
      refine c_ta hW hR (by omega) (fun h1 a1 a2 a3 a4 => c_hu_ hW hh j e hj a1 (fun h2 b1 => ⟨ns + 1, c_insl hW hh j e hj (fun h3 d1 => md (br_t c ?_)) ns 0 h2 (by omega) (by omega) (rc_1_24 hR (a4.trans b1)) rc_F.refl⟩))
      unfold wk_X6_instead_27
      refine br_t rfl (m_beg hM1 (fun h4 b1' b2 b3 => m_at b1' j 3 e rfl (by omega) (by omega) (m_hu_ hW hh j e hj b1' b2 (fun h5 f1 f2 f3 => ?_))))
      have L := m_insl hW hh j e hj (h0 := h5) (Q := rr_A (sp_in σ nd nh j ns).2 h3) (fun h6 g1 g2 => ⟨rfl, S.q (a4.trans (b1.trans d1)) g1 ((rf5 b3).trans (f3.trans g2))⟩) ns 0 h5 (by omega) (by omega) f1 f2 rq_F.refl
      rw [show sp_ml (sp_in σ nd nh j 0).1 = sp_rh (-9) σ nd nh j from sp_ml_rh σ nd nh j] at L
      exact ⟨ns + 1, L⟩
    · rw [if_neg c]
      exact bn_t rfl (S.rf rk3 (fun Q q => md (br_f c (rfz rz3 q))))
/-! doors -/
def sp_td (σ : Nat → Int32) (d : Nat) : Nat → Int32 := upd σ 1 (σ 1 ^^^ (1 <<< (nI d &&& 31)))
theorem b_nI {x : Int32} {n : Nat} (hn : n < 31) (h : ∀ i, n ≤ i → i < 32 → bt x i = false) : ∃ m, m < 2 ^ n ∧ x = nI m := by
  refine ⟨x.toBitVec.toNat, ?_, ?_⟩
  · refine Nat.lt_pow_two_of_testBit _ (fun i hi => ?_)
    by_cases g : i < 32
    · exact h i hi g
    · exact BitVec.getLsbD_of_ge x.toBitVec i (by omega)
  · refine Int32.toBitVec_inj.mp (BitVec.eq_of_toNat_eq ?_)
    exact (pk_tn x.toBitVec.isLt).symm
theorem nI_b {m n : Nat} (hn : n < 31) (hm : m < 2 ^ n) {i : Nat} (hi : n ≤ i) : bt (nI m) i = false := by
  unfold bt
  rw [BitVec.getLsbD, pk_tn (Nat.lt_of_lt_of_le hm (Nat.le_of_lt (Nat.pow_lt_pow_right (by omega) (by omega))))]
  exact Nat.testBit_lt_two_pow (Nat.lt_of_lt_of_le hm (Nat.pow_le_pow_right (by omega) hi))
theorem sp_tdo {d d' : Nat} (hd : d < 32) (hd' : d' < 32) : sp_op (sp_td σ d) d' = (sp_op σ d' ^^ decide (d' = d)) := by
  unfold sp_op sp_td
  rw [show upd σ 1 (σ 1 ^^^ (1 <<< (nI d &&& 31))) 1 = σ 1 ^^^ (1 <<< (nI d &&& 31)) from if_pos rfl, b_xor, b_one d hd hd']
theorem sp_tdn {d i : Nat} (hi : i ≠ 1) : sp_td σ d i = σ i := if_neg hi
theorem sp_WF.td (hW : sp_WF σ nd ns nh hr) {d : Nat} (hd : d < nd) : sp_WF (sp_td σ d) nd ns nh hr := by
  obtain ⟨w1, w2, w3, ⟨m, hm, w4⟩, w5, w6, w7⟩ := hW
  refine ⟨w1, ?_, ?_, ?_, fun d hd => ?_, fun i hi => ?_, fun j hj => ?_⟩
  · rw [sp_tdn (by omega), sp_tdn (by omega), sp_tdn (by omega), sp_tdn (by omega)]; exact w2
  · rw [sp_tdn (by omega)]; exact w3
  · have : ∃ m, m < 2 ^ nd ∧ σ 1 ^^^ (1 <<< (nI d &&& 31)) = nI m := b_nI (by omega) (fun i h1 h2 => by
      rw [b_xor, b_one d (by omega) h2, w4, nI_b (by omega) hm h1, decide_eq_false (by omega)]; rfl)
    obtain ⟨m', q1, q2⟩ := this
    exact ⟨m', q1, by unfold sp_td; rw [show upd σ 1 (σ 1 ^^^ (1 <<< (nI d &&& 31))) 1 = _ from if_pos rfl]; exact q2⟩
  · unfold sp_dr; rw [sp_tdn (by omega), sp_tdn (by omega)]; exact w5 d hd
  · unfold sp_sg; rw [sp_tdn (by omega), sp_tdn (by omega), sp_tdn (by omega)]; exact w6 i hi
  · unfold sp_hd; rw [sp_tdn (by omega), sp_tdn (by omega), sp_tdn (by omega), sp_tdn (by omega), sp_tdn (by omega), sp_tdn (by omega)]; exact w7 j hj
theorem rc_C.td {h : gw_H} {b : Nat} (hR : rc_C b h σ nd ns nh) (h8 : nd ≤ 8) {d : Nat} (hd : d < nd) {v : Int32} (hv : v = if sp_op σ d then 0 else 1) : rc_C b (gw_up h (b + 4) d v) (sp_td σ d) nd ns nh := by
  obtain ⟨⟨r1, r2, r3, r4, r5⟩, rD, rS, rH⟩ := hR
  refine ⟨⟨?_, ?_, ?_, ?_, ?_⟩, fun d' hd' => ?_, fun i hi => ?_, fun j hj => ?_⟩
  · rw [gw_up_ne (by omega), sp_tdn (by omega)]; exact r1
  · rw [gw_up_ne (by omega), sp_tdn (by omega)]; exact r2
  · rw [gw_up_ne (by omega), sp_tdn (by omega)]; exact r3
  · rw [gw_up_ne (by omega), sp_tdn (by omega)]; exact r4
  · rw [gw_up_ne (by omega), sp_tdn (by omega)]; exact r5
  · obtain ⟨q1, q2, q3⟩ := rD d' hd'
    rw [gw_up_ne (by omega), gw_up_ne (by omega)]
    refine ⟨by unfold sp_dr; rw [sp_tdn (by omega)]; exact q1, by unfold sp_dr; rw [sp_tdn (by omega)]; exact q2, ?_⟩
    rw [sp_tdo (by omega) (by omega)]
    by_cases g : d' = d
    · subst g
      rw [gw_up_ee, hv]
      cases sp_op σ d' <;> simp
    · rw [gw_up_en g, q3, decide_eq_false g]
      cases sp_op σ d' <;> rfl
  · rw [gw_up_ne (by omega), gw_up_ne (by omega), gw_up_ne (by omega)]
    unfold sp_sg; rw [sp_tdn (by omega), sp_tdn (by omega), sp_tdn (by omega)]; exact rS i hi
  · rw [gw_up_ne (by omega), gw_up_ne (by omega), gw_up_ne (by omega), gw_up_ne (by omega), gw_up_ne (by omega), gw_up_ne (by omega)]
    unfold sp_hd; rw [sp_tdn (by omega), sp_tdn (by omega), sp_tdn (by omega), sp_tdn (by omega), sp_tdn (by omega), sp_tdn (by omega)]; exact rH j hj
theorem c_op (hW : sp_WF σ nd ns nh hr) {h : gw_H} {b : Nat} (hR : rc_C b h σ nd ns nh) {p : Int32} {d : Nat} (hp : p = nI d) (hd : d < nd) {Q : Int32 → gw_H → Prop} (hq : Q (if sp_op σ d then 1 else 0) h) : wp_X0_isOpen h b p Q := by
  have h8 := hW.1.1
  unfold wp_X0_isOpen
  refine c_dh (rr_e5 hW hR).1 (by omega) (fun c => c_nr hp hd (by omega) c) (fun _ _ _ => br_f rr_dec1 (c_at d hp (by omega) (by omega) ?_))
  rw [(hR.2.1 d hd).2.2]
  by_cases g : sp_op σ d = true
  · rw [if_pos g] at hq ⊢; exact bn_t rfl hq
  · rw [if_neg g] at hq ⊢; exact bn_f (by decide) hq
theorem c_tu (hW : sp_WF σ nd ns nh hr) {h : gw_H} {b : Nat} (hR : rc_C b h σ nd ns nh) {p : Int32} {d : Nat} (hp : p = nI d) (hd : d < nd) {Q : Int32 → gw_H → Prop} (hq : ∀ h', rc_C b h' (sp_td σ d) nd ns nh → rc_F b h h' → Q (if sp_op σ d then 0 else 1) h') : wp_X0_turn h b p Q := by
  have h8 := hW.1.1
  unfold wp_X0_turn
  refine c_op hW hR hp hd ?_
  have fin : ∀ v : Int32, v = (if sp_op σ d then 0 else 1) → wk_X0_turn_18 b p Q v p h := by
    intro v hv
    unfold wk_X0_turn_18
    refine c_put d hp (by omega) (by omega) (c_at d hp (by omega) (by omega) ?_)
    rw [gw_up_ee, hv]
    exact hq _ (hR.td h8 hd rfl) (rc_F.up 4 (by omega) rfl)
  by_cases g : sp_op σ d = true
  · rw [if_pos g]; exact br_f rr_dec1 (fin 0 (by rw [if_pos g]))
  · rw [if_neg g]; exact br_t rfl (fin 1 (by rw [if_neg g]))
theorem o_door (R : RR hC hM) {p1 : Int32} : wp_X5_door hC p1 (fun r hC' => wp_X6_door hM p1 (rr_A r hC')) := by
  obtain ⟨σ, nd, ns, nh, hr, S⟩ := R
  have S : RS hC hM σ nd ns nh hr := S
  obtain ⟨hW, hh, hR, hM1, hX⟩ := id S
  have h8 := hW.1.1
  have em : hM 2 0 = nI nd := (hM1 0 (by omega)).trans hW.2.1.1
  unfold wp_X5_door
  refine c_dh (rr_e5 hW hR).1 (by omega) (fun c => bn_t rfl (S.rf rk1 (fun Q q => ?_))) (fun d hd e => bn_f rr_dec1 (c_tu hW hR e hd (fun h' a1 a2 => ?_)))
  · unfold wp_X6_door
    exact m_in em (by omega) (fun _ => bn_t rfl q) (fun j hj e => c_nr e hj (by omega) c)
  · unfold wp_X6_door
    refine m_in em (by omega) (fun c => c_nr e hd (by omega) c) (fun _ _ _ => bn_f rr_dec1 ?_)
    subst e
    have hu : rm_M (gw_up hM 2 1 ((hM 2 1) ^^^ (1 <<< (nI d &&& 31)))) (sp_td σ d) := by
      unfold sp_td
      rw [hM1 1 (by omega)]
      exact hM1.up 1 _
    refine ⟨?_, RR.n (hW.td hd) hh a1 hu hX a2 (rf2 (fun c hc => gw_up_ne hc))⟩
    rw [hu 1 (by omega)]
    have o := sp_tdo (σ := σ) (d := d) (d' := d) (by omega) (by omega)
    rw [decide_eq_true rfl] at o
    unfold sp_op at o
    by_cases g : sp_op σ d = true
    · rw [if_pos g]
      unfold sp_op at g
      rw [g] at o
      exact ((b_test0 (by omega)).mpr o).symm
    · rw [if_neg g]
      unfold sp_op at g
      rw [Bool.not_eq_true] at g
      rw [g] at o
      exact ((b_test (by omega)).mpr o).symm
end OPS7
