section OPSR
variable {hC hM : gw_H}
theorem o_remedy (R : RR hC hM) {p1 p2 : Int32} : wp_X5_remedy hC p1 p2 (fun r hC' => wp_X6_remedy hM p1 p2 (rr_A r hC')) := by
  obtain ⟨σ, nd, ns, nh, hr, S⟩ := R
  have S : RS hC hM σ nd ns nh hr := S
  obtain ⟨hW, hh, hR, hM1, hX⟩ := id S
  have h6 := hW.1.2.2.1
  obtain ⟨e1, e5, e9, -⟩ := rr_e5 hW hR
  have mr : ∀ {p : Int32}, ¬ p = 0 → ∀ {Q : Int32 → gw_H → Prop}, wp_X6_refuse hM p Q → wk_X6_remedy_45 p1 p2 Q p hM := by
    intro p hp Q q
    unfold wk_X6_remedy_45; exact br_f hp q
  unfold wp_X5_remedy
  refine c_hh (b := 1) e9 (by omega) (fun c => bn_t rfl (S.rf rk1 (fun Q q => ?_))) (fun j hj e => bn_f rr_dec1 ?_)
  · unfold wp_X6_remedy
    exact m_ih hW hM1 (fun _ => bn_t rfl (mr rz1 q)) (fun j hj e => c_nr e hj (by omega) c)
  · have md : ∀ {Q : Int32 → gw_H → Prop}, wp_X6_isIn hM p2 3 (fun r_5 h_4 => ((¬ r_5 = 0 → ((2 ≤ p2 → (wk_X6_remedy_44 p1 p2 Q h_4)) ∧ (¬ 2 ≤ p2 → (wp_X6_at h_4 p1 3 (fun r_15 h_14 => ((0 ≤ r_15 → (wk_X6_remedy_44 p1 p2 Q h_14)) ∧ (¬ 0 ≤ r_15 → (wk_X6_remedy_45 p1 p2 Q (-3) h_14)))))))) ∧ (r_5 = 0 → (wk_X6_remedy_45 p1 p2 Q (-2) h_4)))) → wp_X6_remedy hM p1 p2 Q := by
      intro Q q
      unfold wp_X6_remedy
      exact m_ih hW hM1 (fun c => c_nr e hj (by omega) c) (fun _ _ _ => bn_f rr_dec1 q)
    have no : (p2 < 0 ∨ nI 3 ≤ p2) → wk_X5_remedy_29 p1 p2 (fun r hC' => wp_X6_remedy hM p1 p2 (rr_A r hC')) hC := by
      intro c
      unfold wk_X5_remedy_29
      exact S.rf rk2 (fun Q q => md (m_in (n := 3) rfl (by omega) (fun _ => bn_t rfl (mr rz2 q)) (fun k hk ek => c_nr ek hk (by omega) c)))
    have go : ∀ (k : Nat), k < 3 → p2 = nI k → (0 ≤ sp_hd σ j 3 ∨ p2 = 2) → wk_X5_remedy_62 p1 p2 (fun r hC' => wp_X6_remedy hM p1 p2 (rr_A r hC')) hC := by
      intro k hk ek hs
      have hw : p2 = 0 ∨ p2 = 1 ∨ p2 = 2 ∨ p2 = 3 := by rw [ek]; exact sp_trw (by omega)
      have Wt := hW.tr j hj (w := p2) (hs.imp id (fun z => Or.inl z))
      have fin : ∀ {hC' : gw_H}, rc_C 1 hC' (sp_tr σ j p2) nd ns nh → rc_F 1 hC hC' → wk_X6_remedy_44 p1 p2 (rr_A (sp_hd (sp_tr σ j p2) j 4) hC') hM := by
        intro hC' a1 a2
        unfold wk_X6_remedy_44 wk_X6_remedy_45
        exact br_t rfl (m_tr hW hM1 j e hj hw (fun h2 b1 b2 => m_at b1 j 4 e rfl (by omega) (by omega) ⟨rfl, RR.n Wt hh a1 b1 hX a2 (rf2 b2)⟩))
      unfold wk_X5_remedy_62
      refine c_tr hW hR j e hj hw (fun h' a1 a2 => c_at j e (by omega) (by omega) ?_)
      rw [show h' 15 j = sp_hd (sp_tr σ j p2) j 4 from (a1.2.2.2 j hj).2.2.2.2.1]
      refine md (m_in (n := 3) rfl (by omega) (fun c => c_nr ek hk (by omega) c) (fun _ _ _ => bn_f rr_dec1 ⟨fun _ => fin a1 a2, fun n2 => m_at hM1 j 3 e rfl (by omega) (by omega) ⟨fun _ => fin a1 a2, fun n0 => ?_⟩⟩))
      exfalso
      rcases hs with z | z
      · exact n0 z
      · exact n2 (by rw [z]; exact Int32.le_refl _)
    refine ⟨fun c => no (Or.inl c), fun c => ⟨fun d => ?_, fun d => no (Or.inr (Int32.not_lt.mp d))⟩⟩
    rcases pk_ix p2 (n := 3) (by omega) with q | q | ⟨k, hk, ek⟩
    · exact absurd q c
    · exact absurd d (Int32.not_lt.mpr q)
    · refine ⟨fun z => go k hk ek (Or.inr z), fun z => c_hs hW hR j e hj ?_⟩
      by_cases hs : 0 ≤ sp_hd σ j 3
      · rw [if_pos hs]
        exact bn_f rr_dec1 (go k hk ek (Or.inl hs))
      · rw [if_neg hs]
        refine bn_t rfl (S.rf rk3 (fun Q q' => md (m_in (n := 3) rfl (by omega) (fun c => c_nr ek hk (by omega) c) (fun _ _ _ => bn_f rr_dec1 (br_f (fun z2 => z ?_) (m_at hM1 j 3 e rfl (by omega) (by omega) (br_f hs (mr rz3 q'))))))))
        have : 2 ≤ k := by rw [ek] at z2; exact (nI_leI (a := 2) (by omega) (by omega)).mp z2
        rw [ek, show k = 2 by omega]; rfl
end OPSR
