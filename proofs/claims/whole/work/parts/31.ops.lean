/-! the calls that imagine -/
def RS (hC hM : gw_H) (σ : Nat → Int32) (nd ns nh hr : Nat) : Prop := sp_WF σ nd ns nh hr ∧ hr ≤ 999 ∧ rc_C 1 hC σ nd ns nh ∧ rm_M hM σ ∧ rr_X hC hM
theorem sp_outk {p lo hi : Int32} (h : ¬ sp_out p lo hi = 0) : ∃ k, k < 7 ∧ -(sp_out p lo hi) = nI k := by
  rcases sp_out3 p lo hi with g | g | g
  · exact absurd g h
  · exact ⟨6, by omega, by rw [g]; rfl⟩
  · exact ⟨4, by omega, by rw [g]; rfl⟩
/-- the first place at which it holds -/
def sp_fst (d : Int32) (P : Nat → Bool) : Nat → Nat → Int32
  | 0, _ => d
  | n + 1, k => if P k then nI k else sp_fst d P n (k + 1)
section OPS3
variable {hC hM : gw_H} {σ : Nat → Int32} {nd ns nh hr : Nat}
/-- refused in both -/
theorem RS.rf (S : RS hC hM σ nd ns nh hr) {p : Int32} (hp : ∃ k, k < 7 ∧ -p = nI k) {X : (Int32 → gw_H → Prop) → Prop} (hX : ∀ Q, wp_X6_refuse hM p Q → X Q) : wp_X5_refuse hC p (fun r hC' => X (rr_A r hC')) := by
  obtain ⟨k, hk, e⟩ := hp
  obtain ⟨a, b, c, d, x⟩ := S
  exact c_ref k e hk (hX _ (m_ref k e hk ⟨rfl, RR.ref a b c d x hk⟩))
theorem RS.q (S : RS hC hM σ nd ns nh hr) {hC' hM' : gw_H} (a : rc_F 24 hC hC') (h : rm_M hM' σ) (b : rq_F hM hM') : RR hC' hM' :=
  RR.q S.1 S.2.1 S.2.2.1 h S.2.2.2.2 a b
theorem rk1 : ∃ k, k < 7 ∧ -(-1 : Int32) = nI k := ⟨1, by omega, rfl⟩
theorem rk2 : ∃ k, k < 7 ∧ -(-2 : Int32) = nI k := ⟨2, by omega, rfl⟩
theorem rk3 : ∃ k, k < 7 ∧ -(-3 : Int32) = nI k := ⟨3, by omega, rfl⟩
theorem rk4 : ∃ k, k < 7 ∧ -(-4 : Int32) = nI k := ⟨4, by omega, rfl⟩
theorem rk6 : ∃ k, k < 7 ∧ -(-6 : Int32) = nI k := ⟨6, by omega, rfl⟩
theorem rz1 : ¬ (-1 : Int32) = 0 := by decide
theorem rz2 : ¬ (-2 : Int32) = 0 := by decide
theorem rz3 : ¬ (-3 : Int32) = 0 := by decide
theorem m_hw (hW : sp_WF σ nd ns nh hr) (hM1 : rm_M hM σ) {p1 p2 : Int32} {K : Int32 → gw_H → Prop} (f : (p1 < 0 ∨ nI nh ≤ p1) → K (-1) hM) (g : ∀ j, j < nh → p1 = nI j → K (sp_out p2 0 60) hM) : wp_X6_isHead hM p1 (fun r h => wp_X6_wrong h r p2 K) :=
  m_ih hW hM1 (fun c => m_wr (fun _ => f c) (fun q => absurd rfl q)) (fun j hj e => m_wr (fun q => absurd q rr_dec1) (fun _ => g j hj e))
theorem c_p2 {p : Int32} (h : p = 0 ∨ p = 1) : ∃ k : Nat, k < 2 ∧ p = nI k := by
  rcases h with rfl | rfl
  · exact ⟨0, by omega, rfl⟩
  · exact ⟨1, by omega, rfl⟩
theorem m_p2 {p : Int32} {Q : Int32 → gw_H → Prop} {h : gw_H} (f : ¬ p = 0 → ¬ p = 1 → Q 0 h) (g : ∀ k : Nat, k < 2 → p = nI k → Q 1 h) : wp_X6_isIn h p 2 Q :=
  m_in (n := 2) rfl (by omega) (fun c => f (fun z => c_nr (n := 2) (j := 0) z (by omega) (by omega) c) (fun z => c_nr (n := 2) (j := 1) z (by omega) (by omega) c)) g
theorem o_hold (R : RR hC hM) {p1 p2 p3 : Int32} : wp_X5_hold hC p1 p2 p3 (fun r hC' => wp_X6_hold hM p1 p2 p3 (rr_A r hC')) := by
  obtain ⟨σ, nd, ns, nh, hr, S⟩ := R
  have S : RS hC hM σ nd ns nh hr := S
  obtain ⟨hW, hh, hR, hM1, hX⟩ := id S
  have h6 := hW.1.2.2.1
  obtain ⟨e1, e5, e9, -⟩ := rr_e5 hW hR
  unfold wp_X5_hold
  refine c_hah e9 h6 (fun c => bn_f rz1 ?_) (fun j hj e => ?_)
  · unfold wk_X5_hold_24
    refine br_f rz1 (S.rf rk1 (fun Q q => ?_))
    unfold wp_X6_hold
    refine m_hw hW hM1 (fun _ => bn_f rz1 ?_) (fun j hj e => c_nr e hj (by omega) c)
    unfold wk_X6_hold_29
    exact br_f rz1 q
  · have md : ∀ {Q : Int32 → gw_H → Prop}, ((¬ (sp_out p2 0 60) = 0 → (wk_X6_hold_29 p1 p2 p3 Q (sp_out p2 0 60) hM)) ∧ ((sp_out p2 0 60) = 0 → (wp_X6_isIn hM p3 2 (fun r_15 h_14 => ((¬ r_15 = 0 → (wk_X6_hold_29 p1 p2 p3 Q (sp_out p2 0 60) h_14)) ∧ (r_15 = 0 → (wk_X6_hold_29 p1 p2 p3 Q (-2) h_14))))))) → wp_X6_hold hM p1 p2 p3 Q := by
      intro Q q
      unfold wp_X6_hold
      exact m_hw hW hM1 (fun c => c_nr e hj (by omega) c) (fun _ _ _ => q)
    refine ⟨fun c => ?_, fun c => ?_⟩
    · unfold wk_X5_hold_24
      refine br_f c (S.rf (sp_outk c) (fun Q q => md (bn_f c ?_)))
      unfold wk_X6_hold_29
      exact br_f c q
    · obtain ⟨N, -, hN, rfl⟩ := sp_outn (lo := 0) (hi := 60) rfl rfl (by omega) (by omega) c
      refine c_nei (fun q => br_t rfl ?_) (fun q1 q2 => br_f rr_dec1 ?_)
      · obtain ⟨k, hk, rfl⟩ := c_p2 q
        unfold wk_X5_hold_24
        refine br_t c (c_im hW hR hh hN rfl (fun h' a1 a2 a3 a4 => ?_))
        have mk : ∀ {hC'}, rc_F 24 hC hC' → ∀ v, v = sp_hd (sp_hn nd nh N σ) j (3 + k) → wp_X6_hold hM p1 (nI N) (nI k) (rr_A v hC') := by
          intro hC' b v hv
          refine md (bn_t c (m_p2 (fun z1 z2 => ?_) (fun _ _ _ => bn_f rr_dec1 ?_)))
          · have : k = 0 ∨ k = 1 := by omega
            rcases this with rfl | rfl
            · exact absurd rfl z1
            · exact absurd rfl z2
          · unfold wk_X6_hold_29
            refine br_t c (m_beg hM1 (fun h1 b1 b2 b3 => m_phs' hW hN (by omega) rfl b1 (fun h2 d1 d2 => m_at d1 j (3 + k) e ((nI_add 3 k)) (by omega) (by omega) (m_end (b2.F d2) (fun h3 f1 f2 f3 => ⟨hv, ?_⟩)))))
            exact S.q b f1 ((rf5 b3).trans (d2.q.trans (rf2 f3)))
        have : k = 0 ∨ k = 1 := by omega
        rcases this with rfl | rfl
        · exact bn_t rfl (c_at j e (by omega) (by omega) (mk a4 _ (a1.2.2.2 j hj).2.2.2.1))
        · exact bn_f (by decide) (c_at j e (by omega) (by omega) (mk a4 _ (a1.2.2.2 j hj).2.2.2.2.1))
      · unfold wk_X5_hold_24
        refine br_f rz2 (S.rf rk2 (fun Q q => md (bn_t c (m_p2 (fun _ _ => bn_t rfl ?_) (fun k hk ek => ?_)))))
        · unfold wk_X6_hold_29
          exact br_f rz2 q
        · have : k = 0 ∨ k = 1 := by omega
          rcases this with rfl | rfl
          · exact absurd ek q1
          · exact absurd ek q2
theorem o_have (R : RR hC hM) {p1 p2 : Int32} : wp_X5_have hC p1 p2 (fun r hC' => wp_X6_have hM p1 p2 (rr_A r hC')) := by
  obtain ⟨σ, nd, ns, nh, hr, S⟩ := R
  have S : RS hC hM σ nd ns nh hr := S
  obtain ⟨hW, hh, hR, hM1, hX⟩ := id S
  have h5 := hW.1.2.1
  have h6 := hW.1.2.2.1
  obtain ⟨e1, e5, e9, -⟩ := rr_e5 hW hR
  unfold wp_X5_have
  refine c_sah e5 h5 (fun c1 c => br_f rz1 (S.rf rk1 (fun Q q => ?_))) (fun hs => ?_)
  · unfold wp_X6_have
    refine br_f c1 (m_is hW hM1 (fun _ => br_t rfl ?_) (fun j hj e => c_nr e hj (by omega) c))
    unfold wk_X6_have_19
    exact m_wr (fun _ => br_f rz1 q) (fun z => absurd rfl z)
  · have md : ∀ {Q : Int32 → gw_H → Prop}, (((sp_out p2 0 60) = 0 → (wp_X6_begins hM (fun _ h_5 => (wp_X6_haveBehind h_5 p1 p2 (fun r_7 h_6 => Q r_7 h_6))))) ∧ (¬ (sp_out p2 0 60) = 0 → (wp_X6_refuse hM (sp_out p2 0 60) (fun r_9 h_8 => Q r_9 h_8)))) → wp_X6_have hM p1 p2 Q := by
      intro Q q
      have q' : wk_X6_have_14 p1 p2 Q hM := by
        unfold wk_X6_have_14 wk_X6_have_19
        exact m_wr (fun z => absurd z rr_dec1) (fun _ => q)
      unfold wp_X6_have
      refine ⟨fun _ => q', fun c1 => m_is hW hM1 (fun c => ?_) (fun _ _ _ => br_f rr_dec1 q')⟩
      rcases hs with z | ⟨k, hk, ek⟩
      · exact absurd z c1
      · exact c_nr ek hk (by omega) c
    have hp : p1 = -1 ∨ 0 ≤ p1 := hs.imp id (fun ⟨k, hk, ek⟩ => by rw [ek]; exact nI_pos' (by omega))
    refine ⟨fun c => ?_, fun c => S.rf (sp_outk c) (fun Q q => md (br_f c q))⟩
    obtain ⟨N, -, hN, rfl⟩ := sp_outn (lo := 0) (hi := 60) rfl rfl (by omega) (by omega) c
    refine c_im hW hR hh hN rfl (fun h' a1 a2 a3 a4 => c_hv (hW.hn N (by omega)) a1 hp (md (br_t c (m_beg hM1 (fun h1 b1 b2 b3 => m_hb hW (by omega) b1 b2 hN rfl (fun h2 d1 d2 d3 => ⟨rfl, S.q a4 d1 ((rf5 b3).trans d3)⟩))))))
end OPS3
