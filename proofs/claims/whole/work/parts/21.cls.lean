/-! an hour in the class -/
def rc_G (b : Nat) (h : gw_H) (σ : Nat → Int32) (nh : Nat) (G O : Nat → Int32) : Prop := ∀ j, j < nh → 0 ≤ sp_hd σ j 3 → h (b + 16) j = G j ∧ h (b + 17) j = O j
def rc_N (b : Nat) (h : gw_H) (σ : Nat → Int32) (nh : Nat) : Prop := ∀ j, j < nh → sp_hd σ j 3 = -9 → h (b + 16) j = -9 ∧ h (b + 17) j = -9
/-- outside of the office nothing changes -/
def rc_F (b : Nat) (h h' : gw_H) : Prop := ∀ c, (∀ k, k < 23 → c ≠ b + k) → h' c = h c
theorem rc_F.refl {b : Nat} {h : gw_H} : rc_F b h h := fun _ _ => rfl
theorem rc_F.trans {b : Nat} {h h1 h2 : gw_H} (a : rc_F b h h1) (c : rc_F b h1 h2) : rc_F b h h2 := fun q hq => (c q hq).trans (a q hq)
theorem rc_F.up {b : Nat} {h : gw_H} {c i : Nat} {x : Int32} (k : Nat) (hk : k < 23) (hc : c = b + k) : rc_F b h (gw_up h c i x) := fun q hq => gw_up_ne (fun e => hq k hk (e.trans hc))
theorem rc_T.F {b j : Nat} {h h' : gw_H} (t : rc_T b j h h') : rc_F b h h' := fun c hc => t.1 c (hc 13 (by omega)) (hc 14 (by omega)) (hc 16 (by omega)) (hc 17 (by omega))
section CHOUR
variable {Q : Int32 → gw_H → Prop} {b : Nat} {σ : Nat → Int32} {nd ns nh hr : Nat} {h0 : gw_H} {G O : Nat → Int32}
/-- each in turn gets his song, or loses of it -/
theorem c_ho3 (hW : sp_WF σ nd ns nh hr) (hG : rc_G b h0 σ nh G O)
    (hq : ∀ h', rc_C b h' (sp_ho σ nd nh) nd ns nh → rc_G b h' (sp_ho σ nd nh) nh (sp_G σ nd nh G) (sp_O σ nd nh O) → rc_N b h' (sp_ho σ nd nh) nh → rc_F b h0 h' → Q (sp_ct σ nd nh nh) h') :
    ∀ (n k : Nat) (h : gw_H), k ≤ nh → nh ≤ k + n → rc_C b h (sp_fo σ nd nh k) nd ns nh → rc_F b h0 h →
      (∀ i, i < nh → h (b + 20) i = sp_he σ nd nh i ∧ h (b + 21) i = (sp_ls σ nd i nh).2 ∧ h (b + 22) i = if 0 ≤ (sp_ls σ nd i nh).1 then h0 (b + 17) (sp_ls σ nd i nh).2.toNatClampNeg else -9) →
      (∀ i, i < nh → 0 ≤ sp_hd (sp_fo σ nd nh k) i 3 → (i < k → h (b + 16) i = sp_G σ nd nh G i ∧ h (b + 17) i = sp_O σ nd nh O i) ∧ (k ≤ i → h (b + 16) i = G i ∧ h (b + 17) i = O i)) →
      (∀ i, i < k → sp_hd (sp_fo σ nd nh k) i 3 = -9 → h (b + 16) i = -9 ∧ h (b + 17) i = -9) →
      wl_X2_passHour_103 b Q (n + 1) (sp_ct σ nd nh k) (nI k) h := by
  have hW' := hW
  obtain ⟨⟨h8, h5, h6, -⟩, ⟨-, e2, e3, -⟩, -⟩ := hW
  intro n
  have ex : ∀ h, rc_C b h (sp_fo σ nd nh nh) nd ns nh → rc_F b h0 h → (∀ i, i < nh → 0 ≤ sp_hd (sp_fo σ nd nh nh) i 3 → (i < nh → h (b + 16) i = sp_G σ nd nh G i ∧ h (b + 17) i = sp_O σ nd nh O i) ∧ (nh ≤ i → h (b + 16) i = G i ∧ h (b + 17) i = O i)) → (∀ i, i < nh → sp_hd (sp_fo σ nd nh nh) i 3 = -9 → h (b + 16) i = -9 ∧ h (b + 17) i = -9) → Q (sp_ct σ nd nh nh) (gw_up h b 3 (h b 3 + 1)) := by
    intro h hR hF hI hJ
    obtain ⟨⟨a0, a1, a2, a3, a4⟩, hD, hS, hH⟩ := hR
    have u : ∀ c, c ≠ 4 → sp_ho σ nd nh c = sp_fo σ nd nh nh c := fun c hc => by unfold sp_ho upd; rw [if_neg hc]
    have hhd : ∀ j m, sp_hd (sp_ho σ nd nh) j m = sp_hd (sp_fo σ nd nh nh) j m := fun j m => u _ (by omega)
    refine hq _ ⟨⟨?_, ?_, ?_, ?_, ?_⟩, fun d hd => ?_, fun i hi => ?_, fun j hj => ?_⟩ (fun j hj z => ?_) (fun j hj z => ?_) (hF.trans (rc_F.up 0 (by omega) rfl))
    · rw [gw_up_ne (by omega), a0, u 0 (by omega)]
    · rw [gw_up_ne (by omega), a1, u 2 (by omega)]
    · rw [gw_up_ne (by omega), a2, u 3 (by omega)]
    · rw [gw_up_ee, a3]; unfold sp_ho upd; rw [if_pos rfl]
    · rw [gw_up_en (by omega), a4, u 5 (by omega)]
    · rw [gw_up_ne (by omega), gw_up_ne (by omega), gw_up_ne (by omega)]
      have d0 : sp_dr (sp_ho σ nd nh) d 0 = sp_dr (sp_fo σ nd nh nh) d 0 := u _ (by omega)
      have d1 : sp_dr (sp_ho σ nd nh) d 1 = sp_dr (sp_fo σ nd nh nh) d 1 := u _ (by omega)
      have d2 : sp_op (sp_ho σ nd nh) d = sp_op (sp_fo σ nd nh nh) d := by unfold sp_op; rw [u 1 (by omega)]
      rw [d0, d1, d2]; exact hD d hd
    · rw [gw_up_ne (by omega), gw_up_ne (by omega), gw_up_ne (by omega)]
      have s : ∀ m, m < 3 → sp_sg (sp_ho σ nd nh) i m = sp_sg (sp_fo σ nd nh nh) i m := fun m hm => u _ (by omega)
      rw [s 0 (by omega), s 1 (by omega), s 2 (by omega)]; exact hS i hi
    · rw [gw_up_ne (by omega), gw_up_ne (by omega), gw_up_ne (by omega), gw_up_ne (by omega), gw_up_ne (by omega), gw_up_ne (by omega)]
      rw [hhd, hhd, hhd, hhd, hhd, hhd]; exact hH j hj
    · rw [hhd] at z
      rw [gw_up_ne (by omega), gw_up_ne (by omega)]
      exact (hI j hj z).1 hj
    · rw [hhd] at z
      rw [gw_up_ne (by omega), gw_up_ne (by omega)]
      exact hJ j hj z
  induction n with
  | zero =>
    intro k h hk hn hR hF hA hI hJ
    have : k = nh := by omega
    subst this
    unfold wl_X2_passHour_103
    refine br_t ?_ (ex h hR hF hI hJ)
    rw [hR.1.2.2.1, sp_folo σ nd k (by omega), e3]
    exact nI_le (Nat.le_refl _) (by omega)
  | succ n ih =>
    intro k h hk hn hR hF hA hI hJ
    have r3 : h (b + 9) 8 = nI nh := by rw [hR.1.2.2.1, sp_folo σ nd nh (by omega), e3]
    have r2 : h (b + 5) 3 = nI ns := by rw [hR.1.2.1, sp_folo σ nd nh (by omega), e2]
    unfold wl_X2_passHour_103
    refine pk_le nh k (fun g => ?_) (fun g => ?_) r3 rfl (by omega) (by omega)
    · have : k = nh := by omega
      subst this
      exact ex h hR hF hI hJ
    · have WF := hW'.fo k hk
      obtain ⟨x20, x21, x22⟩ := hA k g
      refine c_at k rfl (by omega) (by omega) ?_
      rw [x20]
      -- what is common behind: the head chews, and the next comes
      have tail : ∀ (τ : Nat → Int32) (h1 : gw_H), sp_WF τ nd ns nh hr → rc_C b h1 τ nd ns nh → rc_F b h h1 → (∀ c, c = b + 20 ∨ c = b + 21 ∨ c = b + 22 → h1 c = h c) → sp_fo σ nd nh (k + 1) = sp_ch τ k →
          (∀ i, i < nh → 0 ≤ sp_hd τ i 3 → (i < k + 1 → h1 (b + 16) i = sp_G σ nd nh G i ∧ h1 (b + 17) i = sp_O σ nd nh O i) ∧ (k + 1 ≤ i → h1 (b + 16) i = G i ∧ h1 (b + 17) i = O i)) →
          (∀ i, i < k + 1 → sp_hd τ i 3 = -9 → h1 (b + 16) i = -9 ∧ h1 (b + 17) i = -9) →
          wk_X2_passHour_186 b (wl_X2_passHour_103 b Q (n + 1)) Q (sp_ct σ nd nh (k + 1)) (nI k) h1 := by
        intro τ h1 w1 c1 f1 k1 e1 i1 j1
        unfold wk_X2_passHour_186
        refine c_ch w1 c1 k rfl g (fun h2 c2 f2 => ?_)
        rw [nI_1]
        refine ih (k + 1) h2 (by omega) (by omega) (by rw [e1]; exact c2) (hF.trans (f1.trans (fun c hc => f2 c (hc 15 (by omega))))) (fun i hi => ?_) (fun i hi z => ?_) (fun i hi z => ?_)
        · rw [f2 (b + 20) (by omega), f2 (b + 21) (by omega), f2 (b + 22) (by omega), k1 _ (Or.inl rfl), k1 _ (Or.inr (Or.inl rfl)), k1 _ (Or.inr (Or.inr rfl))]
          exact hA i hi
        · rw [e1, sp_ch5 (by omega)] at z
          rw [f2 (b + 16) (by omega), f2 (b + 17) (by omega)]
          exact i1 i hi z
        · rw [e1, sp_ch5 (by omega)] at z
          rw [f2 (b + 16) (by omega), f2 (b + 17) (by omega)]
          exact j1 i hi z
      rcases sp_hew hW' k with e | ⟨i, g1, h1, h2, h3, h4, h5'⟩
      · rw [e]
        refine c_sh r2 (by omega) (fun _ => br_t rfl ?_) (fun k' hk' q => absurd q.symm (n9_ne (by omega)))
        have hct : sp_ct σ nd nh (k + 1) = sp_ct σ nd nh k := by rw [sp_ct, e, if_neg n9_neg]
        have hfo : sp_fo σ nd nh (k + 1) = sp_ch (sp_wa (sp_fo σ nd nh k) k) k := by rw [sp_fo, e, if_neg n9_neg]
        refine c_wa WF hR k rfl rfl g (fun h1 c1 t1 g1 n1 => ?_)
        rw [← hct]
        refine tail _ h1 (WF.wa k) c1 t1.F (fun c hc => t1.1 c (by omega) (by omega) (by omega) (by omega)) hfo (fun i hi z => ?_) (fun i hi z => ?_)
        rotate_left
        · by_cases ei : i = k
          · subst ei; exact n1 z
          · rw [sp_wah ei (by omega)] at z
            rw [t1.2 _ i ei, t1.2 _ i ei]
            exact hJ i (by omega) z
        by_cases ei : i = k
        · subst ei
          obtain ⟨q1, q2⟩ := g1 z
          have z2 : 0 ≤ sp_hd (sp_fo σ nd nh i) i 3 := by
            rcases WF.son hi with w | ⟨s, hs, w⟩
            · exfalso
              unfold sp_wa at z
              rw [w, if_pos n9_lt, w] at z
              exact n9_neg z
            · rw [w]; exact nI_pos' (by omega)
          obtain ⟨-, b2⟩ := hI i hi z2
          obtain ⟨b3, b4⟩ := b2 (Nat.le_refl _)
          refine ⟨fun _ => ⟨?_, ?_⟩, fun q => by omega⟩
          · rw [q1, b3]; unfold sp_G; rw [e, if_neg n9_neg]
          · rw [q2, b4]; unfold sp_O; rw [e, if_neg n9_neg]
        · rw [sp_wah ei (by omega)] at z
          rw [t1.2 _ i ei, t1.2 _ i ei]
          obtain ⟨b1, b2⟩ := hI i hi z
          exact ⟨fun q => b1 (by omega), fun q => b2 (by omega)⟩
      · rw [h4]
        refine c_sh r2 (by omega) (fun q => c_nr rfl h1 (by omega) q) (fun _ _ _ => br_f (by decide) ?_)
        have hct : sp_ct σ nd nh (k + 1) = sp_ct σ nd nh k + 1 := by rw [sp_ct, h4, if_pos (nI_pos' (by omega))]
        have hfo : sp_fo σ nd nh (k + 1) = sp_ch (sp_gt (sp_fo σ nd nh k) k (nI i)) k := by rw [sp_fo, h4, if_pos (nI_pos' (by omega))]
        refine c_fr WF hR i rfl h1 (c_at k rfl (by omega) (by omega) (c_at k rfl (by omega) (by omega) (c_rc k rfl (by omega) ?_)))
        rw [← hct]
        refine tail _ _ (WF.gt k (Or.inr ⟨i, h1, rfl⟩)) (by rw [sp_gts k (by omega)]; exact hR.gt4 h8 h5 k) rc_T.of4.F (fun c hc => by rw [gw_up_ne (by omega), gw_up_ne (by omega), gw_up_ne (by omega), gw_up_ne (by omega)]) hfo (fun i' hi z => ?_) (fun i' hi z => ?_)
        rotate_left
        · by_cases ei : i' = k
          · subst ei
            rw [sp_gthd _ _ (by omega), if_pos ⟨rfl, rfl⟩, if_neg (nI_pos (by omega))] at z
            exact absurd z (n9_ne (by omega))
          · rw [sp_gthd _ _ (by omega), if_neg (fun z => ei z.1), if_neg (fun z => ei z.1)] at z
            rw [gw_up_r, if_neg (fun z => ei z.2), gw_up_en ei, gw_up_ne (by omega), gw_up_ne (by omega), gw_up_en ei, gw_up_ne (by omega), gw_up_ne (by omega), gw_up_ne (by omega)]
            exact hJ i' (by omega) z
        by_cases ei : i' = k
        · subst ei
          refine ⟨fun _ => ⟨?_, ?_⟩, fun q => by omega⟩
          · rw [gw_up_ne (by omega), gw_up_ee, x21]
            unfold sp_G; rw [h4, if_pos (nI_pos' (by omega))]
          · rw [gw_up_ee, x22, h3, if_pos (nI_pos' (by omega))]
            unfold sp_O; rw [h4, if_pos (nI_pos' (by omega)), h3, nI_clamp (by omega)]
            exact (hG g1 h2 h5').2
        · rw [sp_gthd _ _ (by omega), if_neg (fun z => ei z.1), if_neg (fun z => ei z.1)] at z
          rw [gw_up_r, if_neg (fun z => ei z.2), gw_up_en ei, gw_up_ne (by omega), gw_up_ne (by omega), gw_up_en ei, gw_up_ne (by omega), gw_up_ne (by omega), gw_up_ne (by omega)]
          obtain ⟨b1, b2⟩ := hI i' hi z
          exact ⟨fun q => b1 (by omega), fun q => b2 (by omega)⟩
end CHOUR
