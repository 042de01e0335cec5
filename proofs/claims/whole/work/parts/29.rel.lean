/-! ## both sides at once -/
def rr_K (hC hM : gw_H) : Prop := hC 0 3 = hM 0 5 ∧ (hC 0 3 = 0 ∨ (hC 0 3 = 1 ∧ ∃ σ nd ns nh hr, sp_WF σ nd ns nh hr ∧ hr ≤ 999 ∧ rc_C 47 hC σ nd ns nh ∧ ∀ i, i < 73 → hM 3 i = σ i))
def rr_R (hC hM : gw_H) (n : Nat) : Prop := n ≤ 6 ∧ hC 0 6 = nI n ∧ hM 0 16 = nI n ∧ ∀ i, i < n → ∃ v : Nat, v < 10 ∧ hC 72 i = nI v ∧ hM 13 i = nI v
def rr_L (hC hM : gw_H) (n : Nat) : Prop := n ≤ 96 ∧ hC 70 1 = nI n ∧ hM 0 13 = nI n ∧ ∀ i, i < n → ∃ v : Nat, v < 256 ∧ hC 71 i = nI v ∧ hM 11 i = nI v
def rr_F (hC hM : gw_H) : Prop := ∀ i, i < 7 → hC 73 i = hM 1 i
def rr_X (hC hM : gw_H) : Prop := rr_K hC hM ∧ (∃ n, rr_R hC hM n) ∧ (∃ n, rr_L hC hM n) ∧ rr_F hC hM
def RR (hC hM : gw_H) : Prop := ∃ σ nd ns nh hr, sp_WF σ nd ns nh hr ∧ hr ≤ 999 ∧ rc_C 1 hC σ nd ns nh ∧ rm_M hM σ ∧ rr_X hC hM
section REL
variable {hC hM hC' hM' : gw_H} {σ τ : Nat → Int32} {nd ns nh hr nd' ns' nh' hr' : Nat}
theorem rr_X.congr (hX : rr_X hC hM) (a : ∀ c, c = 0 ∨ 47 ≤ c → hC' c = hC c) (b : ∀ c, c = 0 ∨ c = 1 ∨ c = 3 ∨ c = 11 ∨ c = 13 → hM' c = hM c) : rr_X hC' hM' := by
  obtain ⟨⟨k1, k2⟩, ⟨n, r1, r2, r3, r4⟩, ⟨m, l1, l2, l3, l4⟩, f⟩ := hX
  have a0 := a 0 (Or.inl rfl)
  have b0 := b 0 (Or.inl rfl)
  refine ⟨⟨by rw [a0, b0]; exact k1, ?_⟩, ⟨n, r1, by rw [a0]; exact r2, by rw [b0]; exact r3, ?_⟩, ⟨m, l1, by rw [a 70 (by omega)]; exact l2, by rw [b0]; exact l3, ?_⟩, ?_⟩
  · rw [a0]
    refine k2.imp id (fun k => ⟨k.1, ?_⟩)
    obtain ⟨-, σ, nd, ns, nh, hr, q1, q2, q3, q4⟩ := k
    refine ⟨σ, nd, ns, nh, hr, q1, q2, q3.congr (fun k hk => a _ (by omega)), ?_⟩
    rw [b 3 (by omega)]; exact q4
  · rw [a 72 (by omega), b 13 (by omega)]; exact r4
  · rw [a 71 (by omega), b 11 (by omega)]; exact l4
  · unfold rr_F; rw [a 73 (by omega), b 1 (by omega)]; exact f
theorem RR.mk' (hW : sp_WF τ nd' ns' nh' hr') (hh : hr' ≤ 999) (hR : rc_C 1 hC' τ nd' ns' nh') (hM1 : rm_M hM' τ) (hX : rr_X hC hM) (a : ∀ c, c = 0 ∨ 47 ≤ c → hC' c = hC c) (b : ∀ c, c = 0 ∨ c = 1 ∨ c = 3 ∨ c = 11 ∨ c = 13 → hM' c = hM c) : RR hC' hM' :=
  ⟨τ, nd', ns', nh', hr', hW, hh, hR, hM1, hX.congr a b⟩
theorem rf1 (F : rc_F 1 hC hC') : ∀ c, c = 0 ∨ 47 ≤ c → hC' c = hC c := fun c hc => F c (fun k hk => by omega)
theorem rf24 (F : rc_F 24 hC hC') : ∀ c, c = 0 ∨ 47 ≤ c → hC' c = hC c := fun c hc => F c (fun k hk => by omega)
theorem rfq (F : rq_F hM hM') : ∀ c, c = 0 ∨ c = 1 ∨ c = 3 ∨ c = 11 ∨ c = 13 → hM' c = hM c := fun c hc => F c (by omega) (by omega) (by omega) (by omega) (by omega) (by omega) (by omega)
theorem rf2 (F : ∀ c, c ≠ 2 → hM' c = hM c) : rq_F hM hM' := fun c h _ _ _ _ _ _ => F c h
theorem rf5 (F : ∀ c, c ≠ 5 → hM' c = hM c) : rq_F hM hM' := fun c _ h _ _ _ _ _ => F c h
/-- the office changed in both -/
theorem RR.n (hW : sp_WF τ nd' ns' nh' hr') (hh : hr' ≤ 999) (hR : rc_C 1 hC' τ nd' ns' nh') (hM1 : rm_M hM' τ) (hX : rr_X hC hM) (a : rc_F 1 hC hC') (b : rq_F hM hM') : RR hC' hM' :=
  RR.mk' hW hh hR hM1 hX (rf1 a) (rfq b)
theorem rc_1_24 (hR : rc_C 1 hC σ nd ns nh) (a : rc_F 24 hC hC') : rc_C 1 hC' σ nd ns nh := hR.congr (fun k hk => a _ (fun m hm => by omega))
/-- a question in mind changed neither -/
theorem RR.q (hW : sp_WF σ nd ns nh hr) (hh : hr ≤ 999) (hR : rc_C 1 hC σ nd ns nh) (hM1 : rm_M hM' σ) (hX : rr_X hC hM) (a : rc_F 24 hC hC') (b : rq_F hM hM') : RR hC' hM' :=
  RR.mk' hW hh (rc_1_24 hR a) hM1 hX (rf24 a) (rfq b)
theorem RR.ref (hW : sp_WF σ nd ns nh hr) (hh : hr ≤ 999) (hR : rc_C 1 hC σ nd ns nh) (hM1 : rm_M hM σ) (hX : rr_X hC hM) {k : Nat} (hk : k < 7) : RR (gw_up hC 73 k (hC 73 k + 1)) (gw_up hM 1 k (hM 1 k + 1)) := by
  obtain ⟨⟨k1, k2⟩, ⟨n, r1, r2, r3, r4⟩, ⟨m, l1, l2, l3, l4⟩, f⟩ := hX
  refine ⟨σ, nd, ns, nh, hr, hW, hh, hR.irr (fun m hm => by omega), hM1.congr (gw_up_ne (by omega)), ⟨?_, ?_⟩, ⟨n, r1, ?_, ?_, ?_⟩, ⟨m, l1, ?_, ?_, ?_⟩, fun i hi => ?_⟩
  · rw [gw_up_ne (by omega), gw_up_ne (by omega)]; exact k1
  · rw [gw_up_ne (by omega), gw_up_ne (by omega)]
    refine k2.imp id (fun q => ⟨q.1, ?_⟩)
    obtain ⟨-, σ, nd, ns, nh, hr, q1, q2, q3, q4⟩ := q
    exact ⟨σ, nd, ns, nh, hr, q1, q2, q3.irr (fun m hm => by omega), q4⟩
  · rw [gw_up_ne (by omega)]; exact r2
  · rw [gw_up_ne (by omega)]; exact r3
  · rw [gw_up_ne (by omega), gw_up_ne (by omega)]; exact r4
  · rw [gw_up_ne (by omega)]; exact l2
  · rw [gw_up_ne (by omega)]; exact l3
  · rw [gw_up_ne (by omega), gw_up_ne (by omega)]; exact l4
  · by_cases e : i = k
    · subst e; rw [gw_up_ee, gw_up_ee, f i hi]
    · rw [gw_up_en e, gw_up_en e, f i hi]
end REL
/-- what both must answer -/
abbrev rr_A (r : Int32) (hC' : gw_H) : Int32 → gw_H → Prop := fun r' hM' => r = r' ∧ RR hC' hM'
section OPS1
variable {hC hM : gw_H}
theorem rr_e5 {h : gw_H} {b : Nat} {σ : Nat → Int32} {nd ns nh hr : Nat} (hW : sp_WF σ nd ns nh hr) (hR : rc_C b h σ nd ns nh) : h (b + 1) 3 = nI nd ∧ h (b + 5) 3 = nI ns ∧ h (b + 9) 8 = nI nh ∧ h b 3 = nI hr :=
  ⟨hR.1.1.trans hW.2.1.1, hR.1.2.1.trans hW.2.1.2.1, hR.1.2.2.1.trans hW.2.1.2.2.1, hR.1.2.2.2.1.trans hW.2.1.2.2.2⟩
theorem rr_dec1 : ¬ (1 : Int32) = 0 := by decide
theorem o_song (R : RR hC hM) {p1 p2 : Int32} : wp_X5_song hC p1 p2 (fun r hC' => wp_X6_song hM p1 p2 (rr_A r hC')) := by
  obtain ⟨σ, nd, ns, nh, hr, hW, hh, hR, hM1, hX⟩ := R
  have me : RR hC hM := ⟨σ, nd, ns, nh, hr, hW, hh, hR, hM1, hX⟩
  have rf : ∀ {k : Nat}, k < 7 → RR (gw_up hC 73 k (hC 73 k + 1)) (gw_up hM 1 k (hM 1 k + 1)) := fun hk => RR.ref hW hh hR hM1 hX hk
  have h5 := hW.1.2.1
  obtain ⟨e1, e5, e9, -⟩ := rr_e5 hW hR
  unfold wp_X5_song
  refine c_sh (b := 1) e5 (by omega) (fun c => bn_t rfl (c_ref 1 rfl (by omega) ?_)) (fun i hi e => bn_f rr_dec1 ?_)
  · unfold wp_X6_song
    refine m_is hW hM1 (fun _ => bn_t rfl (m_ref 1 rfl (by omega) ⟨rfl, rf (by omega)⟩)) (fun j hj e => c_nr e hj (by omega) c)
  · obtain ⟨s0, s1, s2⟩ := hR.2.2.1 i hi
    have go : ∀ {A : Prop}, A → wp_X6_isSong hM p1 (fun r_2 h_1 => (¬ r_2 = 0 → r_2 = 1 → h_1 = hM → A) ∧ (r_2 = 0 → False)) := fun a => m_is hW hM1 (fun c => c_nr e hi (by omega) c) (fun _ _ _ => ⟨fun _ _ _ => a, fun q => absurd q rr_dec1⟩)
    have md : ∀ {Q : Int32 → gw_H → Prop}, (∀ k, k < 3 → p2 = nI k → Q (sp_sg σ i k) hM) → (p2 = 3 → Q (sp_fr σ i) hM) → (p2 = 4 → Q (sp_hv σ p1 nh) hM) → (¬ p2 = 0 → ¬ p2 = 1 → ¬ p2 = 2 → ¬ p2 = 3 → ¬ p2 = 4 → Q (-2) (gw_up hM 1 2 (hM 1 2 + 1))) → wp_X6_song hM p1 p2 Q := by
      intro Q q1 q2 q3 q4
      unfold wp_X6_song
      refine m_is hW hM1 (fun c => c_nr e hi (by omega) c) (fun _ _ _ => bn_f rr_dec1 ?_)
      refine m_in (n := 3) rfl (by omega) (fun c => br_t rfl ⟨fun c3 => ⟨fun c4 => m_ref 2 rfl (by omega) (q4 (fun z => ?_) (fun z => ?_) (fun z => ?_) c3 c4), fun c4 => m_hv hW hM1 (q3 c4)⟩, fun c3 => m_fr hM1 i e (by omega) (q2 c3)⟩) (fun k hk ek => br_f rr_dec1 (m_of hM1 i k e ek (by omega) hk (q1 k hk ek)))
      · exact c_nr (n := 3) (j := 0) z (by omega) (by omega) c
      · exact c_nr (n := 3) (j := 1) z (by omega) (by omega) c
      · exact c_nr (n := 3) (j := 2) z (by omega) (by omega) c
    have nk : ∀ {n k : Nat} {A : Prop}, p2 = nI n → n < 100 → k < 3 → p2 = nI k → n ≠ k → A := fun a b c d q => absurd ((nI_eq (by omega) (by omega)).mp (a.symm.trans d)) q
    refine ⟨fun c0 => c_at i e (by omega) (by omega) (md (fun k hk ek => ?_) (fun z => ?_) (fun z => ?_) (fun z => absurd c0 z)), fun c0 => ⟨fun c1 => c_at i e (by omega) (by omega) (md (fun k hk ek => ?_) (fun z => ?_) (fun z => ?_) (fun _ z => absurd c1 z)), fun c1 => ⟨fun c2 => c_at i e (by omega) (by omega) (md (fun k hk ek => ?_) (fun z => ?_) (fun z => ?_) (fun _ _ z => absurd c2 z)), fun c2 => ⟨fun c3 => c_fr hW hR i e hi (md (fun k hk ek => ?_) (fun z => ⟨rfl, me⟩) (fun z => ?_) (fun _ _ _ z => absurd c3 z)), fun c3 => ⟨fun c4 => c_hv hW hR (Or.inr (by rw [e]; exact nI_pos' (by omega))) (md (fun k hk ek => ?_) (fun z => ?_) (fun z => ⟨rfl, me⟩) (fun _ _ _ _ z => absurd c4 z)), fun c4 => c_ref 2 rfl (by omega) (md (fun k hk ek => ?_) (fun z => absurd z c3) (fun z => absurd z c4) (fun _ _ _ _ _ => ⟨rfl, rf (by omega)⟩))⟩⟩⟩⟩⟩
    · by_cases g : k = 0
      · subst g; exact ⟨s0, me⟩
      · exact nk (n := 0) c0 (by omega) hk ek (by omega)
    · exact absurd (c0.symm.trans z) (by decide)
    · exact absurd (c0.symm.trans z) (by decide)
    · by_cases g : k = 1
      · subst g; exact ⟨s1, me⟩
      · exact nk (n := 1) c1 (by omega) hk ek (by omega)
    · exact absurd (c1.symm.trans z) (by decide)
    · exact absurd (c1.symm.trans z) (by decide)
    · by_cases g : k = 2
      · subst g; exact ⟨s2, me⟩
      · exact nk (n := 2) c2 (by omega) hk ek (by omega)
    · exact absurd (c2.symm.trans z) (by decide)
    · exact absurd (c2.symm.trans z) (by decide)
    · exact nk (n := 3) c3 (by omega) hk ek (by omega)
    · exact absurd (c3.symm.trans z) (by decide)
    · exact nk (n := 4) c4 (by omega) hk ek (by omega)
    · exact absurd (c4.symm.trans z) (by decide)
    · have : k = 0 ∨ k = 1 ∨ k = 2 := by omega
      rcases this with rfl | rfl | rfl
      · exact absurd ek c0
      · exact absurd ek c1
      · exact absurd ek c2
end OPS1
