/-! told hours -/
def sp_ir (x : Int32) : Int32 := if x = -9 then 9 else x
def sp_ulp (w τ : Nat → Int32) : Nat → Bool := fun i => decide (¬ w i = sp_ir (sp_hd τ i 3))
/-- the first head that is told otherwise -/
def sp_ul (w τ : Nat → Int32) (m : Nat) : Int32 := sp_fst (-9) (sp_ulp w τ) m 0
theorem sp_fst_congr {d : Int32} {P P' : Nat → Bool} : ∀ n k, (∀ i, k ≤ i → i < k + n → P i = P' i) → sp_fst d P n k = sp_fst d P' n k := by
  intro n
  induction n with
  | zero => exact fun k _ => rfl
  | succ n ih =>
    intro k h
    rw [sp_fst, sp_fst, h k (Nat.le_refl _) (by omega), ih (k + 1) (fun i a b => h i (by omega) (by omega))]
theorem sp_ul_congr {w w' τ : Nat → Int32} {m : Nat} (h : ∀ i, i < m → w i = w' i) : sp_ul w τ m = sp_ul w' τ m :=
  sp_fst_congr m 0 (fun i _ hi => by unfold sp_ulp; rw [h i (by omega)])
section OPS10
variable {hC hM : gw_H} {σ τ : Nat → Int32} {nd ns nh hr ns' : Nat}
theorem c_ull (hW : sp_WF τ nd ns nh hr) {h : gw_H} {b : Nat} (hR : rc_C b h τ nd ns nh) {m : Nat} (hm : m ≤ nh) {p2 : Int32} (hp : p2 = nI m) {Q : Int32 → gw_H → Prop} (hq : Q (sp_ul (h 72) τ m) h) :
    ∀ (n k : Nat), k ≤ m → m ≤ k + n → sp_ul (h 72) τ m = sp_fst (-9) (sp_ulp (h 72) τ) (m - k) k → wl_X5_unlikeTold_2 b p2 Q (n + 1) (nI k) h := by
  have h6 := hW.1.2.2.1
  intro n
  induction n with
  | zero =>
    intro k hk hn hE
    have : k = m := by omega
    subst this
    unfold wl_X5_unlikeTold_2
    rw [hE, Nat.sub_self] at hq
    exact br_t (by rw [hp]; exact nI_le (Nat.le_refl _) (by omega)) hq
  | succ n ih =>
    intro k hk hn hE
    unfold wl_X5_unlikeTold_2
    refine pk_le m k (fun g => ?_) (fun g => ?_) hp rfl (by omega) (by omega)
    · have : k = m := by omega
      subst this
      rw [hE, Nat.sub_self] at hq
      exact hq
    · refine c_at k rfl (by omega) (by omega) (c_at k rfl (by omega) (by omega) ?_)
      rw [(hR.2.2.2 k (by omega)).2.2.2.1]
      unfold wp_X5_inRow
      rw [show m - k = (m - (k + 1)) + 1 by omega] at hE
      have fin : ∀ x, x = sp_ir (sp_hd τ k 3) → ((h 72 k = x → wl_X5_unlikeTold_2 b p2 Q (n + 1) (nI k + 1) h) ∧ (¬ h 72 k = x → Q (nI k) h)) := by
        intro x hx
        refine ⟨fun c => ?_, fun c => ?_⟩
        · rw [nI_1]
          refine ih (k + 1) (by omega) (by omega) (hE.trans (sp_fst_f ?_))
          unfold sp_ulp
          exact decide_eq_false (fun q => q (by rw [c, hx]))
        · rw [hE.trans (sp_fst_t (by unfold sp_ulp; exact decide_eq_true (by rw [← hx]; exact c)))] at hq
          exact hq
      exact ⟨fun c => fin _ (by unfold sp_ir; rw [if_neg c]), fun c => fin _ (by unfold sp_ir; rw [if_pos c])⟩
theorem c_ul (hW : sp_WF τ nd ns nh hr) {h : gw_H} {b : Nat} (hR : rc_C b h τ nd ns nh) {m : Nat} (hm : m ≤ nh) {p2 : Int32} (hp : p2 = nI m) {Q : Int32 → gw_H → Prop} (hq : Q (sp_ul (h 72) τ m) h) : wp_X5_unlikeTold h b p2 Q := by
  unfold wp_X5_unlikeTold
  exact ⟨m + 1, c_ull hW hR hm hp hq m 0 (by omega) (by omega) rfl⟩
theorem m_td (hW : sp_WF τ nd ns nh hr) {h : gw_H} (hM1 : rm_M h τ) {p : Int32} (j : Nat) (e : p = nI j) (hj : j < nh) {Q : Int32 → gw_H → Prop} (f : h 13 j = sp_ir (sp_hd τ j 3) → Q 1 h) (g : ¬ h 13 j = sp_ir (sp_hd τ j 3) → Q 0 h) : wp_X6_isTold h p Q := by
  have h6 := hW.1.2.2.1
  have h5 := hW.1.2.1
  subst e
  unfold wp_X6_isTold
  refine ⟨vp_in_nI (by omega) (by omega), m_at hM1 j 3 rfl rfl (by omega) (by omega) ?_⟩
  rw [nI_clamp (by omega)]
  have fin : ∀ x, x = sp_ir (sp_hd τ j 3) → wk_X6_isTold_26 (nI j) Q x (h 13 j) h := by
    intro x hx
    unfold wk_X6_isTold_26
    rw [hx]
    exact ⟨g, f⟩
  refine br_c (fun c => m_at hM1 j 3 rfl rfl (by omega) (by omega) (fin _ ?_)) (fun c => fin _ ?_)
  · unfold sp_ir; rw [if_neg (fun q => by rw [q] at c; exact absurd c n9_neg)]
  · unfold sp_ir
    rcases hW.son hj with z | ⟨i, hi, z⟩
    · rw [if_pos z]
    · exact absurd (by rw [z]; exact nI_pos' (by omega)) c
theorem m_all (hW : sp_WF τ nd ns nh hr) {h : gw_H} (hM1 : rm_M h τ) {Q : Int32 → gw_H → Prop} (hq : Q (if sp_ul (h 13) τ nh = -9 then 1 else 0) h) :
    ∀ (n k : Nat), k ≤ nh → nh ≤ k + n → sp_ul (h 13) τ nh = sp_fst (-9) (sp_ulp (h 13) τ) (nh - k) k → wl_X6_isAllTold_2 Q (n + 1) (nI k) h := by
  have h6 := hW.1.2.2.1
  have e3 : h 2 3 = nI nh := (hM1 3 (by omega)).trans hW.2.1.2.2.1
  intro n
  induction n with
  | zero =>
    intro k hk hn hE
    have : k = nh := by omega
    subst this
    unfold wl_X6_isAllTold_2
    rw [hE, Nat.sub_self] at hq
    exact br_t (by rw [e3]; exact nI_le (Nat.le_refl _) (by omega)) hq
  | succ n ih =>
    intro k hk hn hE
    unfold wl_X6_isAllTold_2
    refine pk_le nh k (fun g => ?_) (fun g => ?_) e3 rfl (by omega) (by omega)
    · have : k = nh := by omega
      subst this
      rw [hE, Nat.sub_self] at hq
      exact hq
    · rw [show nh - k = (nh - (k + 1)) + 1 by omega] at hE
      refine m_td hW hM1 k rfl g (fun c => bn_f rr_dec1 ?_) (fun c => bn_t rfl ?_)
      · rw [nI_1]
        refine ih (k + 1) (by omega) (by omega) (hE.trans (sp_fst_f ?_))
        unfold sp_ulp
        exact decide_eq_false (fun q => q c)
      · rw [hE.trans (sp_fst_t (by unfold sp_ulp; exact decide_eq_true c)), if_neg (n9_ne (by omega))] at hq
        exact hq
theorem m_atl (hW : sp_WF τ nd ns nh hr) {h : gw_H} (hM1 : rm_M h τ) {Q : Int32 → gw_H → Prop} (hq : Q (if sp_ul (h 13) τ nh = -9 then 1 else 0) h) : wp_X6_isAllTold h Q := by
  unfold wp_X6_isAllTold
  exact ⟨nh + 1, m_all hW hM1 hq nh 0 (by omega) (by omega) rfl⟩
theorem sp_ul_cs (w τ : Nat → Int32) (m : Nat) : sp_ul w τ m = -9 ∨ ∃ i, i < m ∧ sp_ul w τ m = nI i := by
  unfold sp_ul
  rcases sp_fst_cs (sp_ulp w τ) m 0 with q | ⟨i, hi, q⟩
  · exact Or.inl (q _)
  · exact Or.inr ⟨i, by omega, q _⟩
/-- what the judge says of r rows for nh heads -/
def sp_ju (w τ : Nat → Int32) (r nh : Nat) : Int32 := if sp_ul w τ (min r nh) = -9 then (if r = nh then -9 else nI (min r nh)) else sp_ul w τ (min r nh)
theorem m_jul (hW : sp_WF τ nd ns nh hr) {h : gw_H} (hM1 : rm_M h τ) {r : Nat} (hr6 : r ≤ 6) {Q : Int32 → gw_H → Prop} (hq : Q (sp_ju (h 13) τ r nh) h) :
    ∀ (n k : Nat), k ≤ min r nh → min r nh ≤ k + n → sp_ul (h 13) τ (min r nh) = sp_fst (-9) (sp_ulp (h 13) τ) (min r nh - k) k → wl_X6_judge_12 Q (n + 1) (nI r) (nI k) h := by
  have h6 := hW.1.2.2.1
  have e3 : h 2 3 = nI nh := (hM1 3 (by omega)).trans hW.2.1.2.2.1
  have fin : ∀ k, k = min r nh → sp_ul (h 13) τ (min r nh) = sp_fst (-9) (sp_ulp (h 13) τ) (min r nh - k) k → ∀ n, wl_X6_judge_12 Q (n + 1) (nI r) (nI k) h := by
    intro k hk hE n
    subst hk
    rw [Nat.sub_self] at hE
    replace hE : sp_ul (h 13) τ (min r nh) = -9 := hE
    unfold sp_ju at hq
    rw [if_pos hE] at hq
    unfold wl_X6_judge_12
    refine pk_le r (min r nh) (fun g => pk_le nh r (fun g2 => ?_) (fun g2 => ?_) e3 rfl (by omega) (by omega)) (fun g => pk_eq (min r nh) nh (fun g2 => ?_) (fun g2 => by omega) rfl e3 (by omega) (by omega)) rfl rfl (by omega) (by omega)
    · rw [if_pos (by omega)] at hq; exact hq
    · rw [if_neg (by omega), show min r nh = r by omega] at hq; exact hq
    · rw [if_neg (by omega)] at hq; exact hq
  intro n
  induction n with
  | zero =>
    intro k hk hn hE
    exact fin k (by omega) hE 0
  | succ n ih =>
    intro k hk hn hE
    by_cases g : k = min r nh
    · exact fin k g hE (n + 1)
    · have g' : k < min r nh := by omega
      rw [show min r nh - k = (min r nh - (k + 1)) + 1 by omega] at hE
      unfold wl_X6_judge_12
      refine br_f (nI_ge (by omega) (by omega)) (br_f (fun q => ?_) (m_td hW hM1 k rfl (by omega) (fun c => bn_f rr_dec1 ?_) (fun c => bn_t rfl ?_)))
      · rw [e3] at q
        have := (nI_eq (by omega) (by omega)).mp q
        omega
      · rw [nI_1]
        refine ih (k + 1) (by omega) (by omega) (hE.trans (sp_fst_f ?_))
        unfold sp_ulp
        exact decide_eq_false (fun q => q c)
      · replace hE := hE.trans (sp_fst_t (by unfold sp_ulp; exact decide_eq_true c))
        unfold sp_ju at hq
        rw [hE, if_neg (n9_ne (by omega))] at hq
        exact hq
theorem o_judge (R : RR hC hM) : wp_X5_judge hC (fun r hC' => wp_X6_judge hM (rr_A r hC')) := by
  obtain ⟨σ, nd, ns, nh, hr, hW, hh, hR, hM1, hX⟩ := R
  obtain ⟨hK, ⟨r, r1, r2, r3, r4⟩, hL, hF⟩ := id hX
  have h6 := hW.1.2.2.1
  obtain ⟨e1, e5, e9, -⟩ := rr_e5 hW hR
  have e9' : hC 10 8 = nI nh := e9
  have emin : (if (hC 10 8) < (hC 0 6) then (hC 10 8) else (hC 0 6)) = nI (min r nh) := by
    rw [e9', r2]
    by_cases g : nh < r
    · rw [if_pos (nI_lt g (by omega)), show min r nh = nh by omega]
    · rw [if_neg (nI_nlt (by omega) (by omega)), show min r nh = r by omega]
  have ew : sp_ju (hC 72) σ r nh = sp_ju (hM 13) σ r nh := by
    unfold sp_ju
    rw [sp_ul_congr (w := hC 72) (w' := hM 13) (fun i hi => by
      obtain ⟨v, -, a, b⟩ := r4 i (by omega)
      rw [a, b])]
  have fin : ∀ v, v = sp_ju (hC 72) σ r nh → wp_X6_judge hM (rr_A v (gw_up hC 0 6 0)) := by
    intro v hv
    unfold wp_X6_judge
    rw [r3]
    refine ⟨min r nh + 1, m_jul hW (hM1.congr (gw_up_ne (by omega))) r1 ⟨?_, ?_⟩ (min r nh) 0 (by omega) (by omega) rfl⟩
    · rw [hv, ew, gw_up_ne (by omega)]
    · obtain ⟨k1, k2⟩ := hK
      obtain ⟨m, l1, l2, l3, l4⟩ := hL
      refine ⟨σ, nd, ns, nh, hr, hW, hh, hR.irr (fun m hm => by omega), hM1.congr (gw_up_ne (by omega)), ⟨?_, ?_⟩, ⟨0, by omega, gw_up_ee, gw_up_ee, fun i hi => by omega⟩, ⟨m, l1, ?_, ?_, ?_⟩, ?_⟩
      · rw [gw_up_en (by omega), gw_up_en (by omega)]; exact k1
      · rw [gw_up_en (by omega), gw_up_ne (by omega)]
        refine k2.imp id (fun q => ⟨q.1, ?_⟩)
        obtain ⟨-, σ, nd, ns, nh, hr, q1, q2, q3, q4⟩ := q
        exact ⟨σ, nd, ns, nh, hr, q1, q2, q3.irr (fun m hm => by omega), q4⟩
      · rw [gw_up_ne (by omega)]; exact l2
      · rw [gw_up_en (by omega)]; exact l3
      · rw [gw_up_ne (by omega), gw_up_ne (by omega)]; exact l4
      · unfold rr_F; rw [gw_up_ne (by omega), gw_up_ne (by omega)]; exact hF
  unfold wp_X5_judge
  rw [emin]
  refine c_ul hW hR (m := min r nh) (by omega) rfl ?_
  rw [e9', r2]
  have ju : ∀ s : Int32, ((s = 0) ↔ ¬ r = nh) → wk_X5_judge_53 (fun r hC' => wp_X6_judge hM (rr_A r hC')) (nI (min r nh)) (sp_ul (hC 72) σ (min r nh)) s hC := by
    intro s hs
    unfold wk_X5_judge_53
    refine ⟨fun c => fin _ ?_, fun c => ⟨fun d => fin _ ?_, fun d => fin _ ?_⟩⟩
    · unfold sp_ju; rw [if_neg c]
    · unfold sp_ju; rw [if_pos c, if_neg (hs.mp d)]
    · unfold sp_ju; rw [if_pos c, if_pos (Classical.byContradiction (fun z => d (hs.mpr z))), c]
  exact pk_ne r nh (fun g => ju 0 ⟨fun _ => g, fun _ => rfl⟩) (fun g => ju 1 ⟨fun q => absurd q rr_dec1, fun q => absurd g q⟩) rfl rfl (by omega) (by omega)
end OPS10
