/-! seeds -/
def sp_sdz (z : Int32) : Int32 := z * 1664525 + 1013904223
def sp_sdp (z : Int32) : Int32 := ((z &&& 2147483647) / 256) - ((z &&& 2147483647) / 256) / 5 * 5
theorem sp_sdp5 (z : Int32) : ∃ s : Nat, s < 5 ∧ sp_sdp z = nI s := by
  obtain ⟨j, hj, e⟩ := pk_andE z (m := 2147483647) 31 (by decide)
  refine ⟨j / 256 % 5, by omega, ?_⟩
  unfold sp_sdp
  rw [e, show (256 : Int32) = nI 256 from rfl, pk_div hj (by omega) (by omega), show (5 : Int32) = nI 5 from rfl, pk_rem (by omega) (by omega) (by omega)]
def sp_sd (σ : Nat → Int32) (z : Int32) : Nat → (Nat → Int32) × Int32
  | 0 => (σ, z)
  | k + 1 => (upd (sp_sd σ z k).1 (37 + 6 * k + 1) (sp_sdp (sp_sdz (sp_sd σ z k).2)), sp_sdz (sp_sd σ z k).2)
def sp_so (σ : Nat → Int32) (nd nh : Nat) (z : Int32) : Nat → (Nat → Int32) × Int32
  | 0 => (σ, z)
  | n + 1 => (sp_ho (sp_sd (sp_so σ nd nh z n).1 (sp_so σ nd nh z n).2 nh).1 nd nh, (sp_sd (sp_so σ nd nh z n).1 (sp_so σ nd nh z n).2 nh).2)
section OPS12
variable {hC hM : gw_H} {σ τ w : Nat → Int32} {nd ns nh hr ns' N : Nat}
theorem sp_WF.sd (hW : sp_WF σ nd ns nh hr) (z : Int32) : ∀ k, sp_WF (sp_sd σ z k).1 nd ns nh hr := by
  intro k
  induction k with
  | zero => exact hW
  | succ k ih => exact ih.pl k (sp_sdp5 _)
theorem sp_WF.so (hW : sp_WF σ nd ns nh hr) (z : Int32) : ∀ n, hr + n < 100000 → sp_WF (sp_so σ nd nh z n).1 nd ns nh (hr + n) := by
  intro n
  induction n with
  | zero => exact fun _ => hW
  | succ n ih => exact fun h => ((ih (by omega)).sd _ nh).ho (by omega)
theorem c_sdi (hW : sp_WF τ nd ns nh hr) (hh : hr + 1 < 100000) {p1 p2 z0 x5 : Int32} {h0 : gw_H} {Q : Int32 → gw_H → Prop} {K : Int32 → Int32 → gw_H → Prop}
    (hq : ∀ h', rc_F 24 h0 h' → rc_C 24 h' (sp_ho (sp_sd τ z0 nh).1 nd nh) nd ns nh → K (sp_sd τ z0 nh).2 (x5 + 1) h') :
    ∀ (n k : Nat) (h : gw_H), k ≤ nh → nh ≤ k + n → rc_C 24 h (sp_sd τ z0 k).1 nd ns nh → rc_F 24 h0 h → wl_X5_seeds_44 p1 p2 K Q (n + 1) (sp_sd τ z0 k).2 x5 (nI k) h := by
  have h6 := hW.1.2.2.1
  intro n
  induction n with
  | zero =>
    intro k h hk hn hR hF
    have : k = nh := by omega
    subst this
    unfold wl_X5_seeds_44
    exact br_t (by rw [(rr_e5 (hW.sd z0 k) hR).2.2.1]; exact nI_le (Nat.le_refl _) (by omega)) (c_hour' (hW.sd z0 k) hR (fun h' a1 a2 => hq h' (hF.trans a2) a1))
  | succ n ih =>
    intro k h hk hn hR hF
    unfold wl_X5_seeds_44
    refine pk_le nh k (fun g => ?_) (fun g => ?_) (rr_e5 (hW.sd z0 k) hR).2.2.1 rfl (by omega) (by omega)
    · have : k = nh := by omega
      subst this
      exact c_hour' (hW.sd z0 k) hR (fun h' a1 a2 => hq h' (hF.trans a2) a1)
    · refine c_put k rfl (by omega) (by omega) ?_
      rw [nI_1]
      exact ih (k + 1) _ (by omega) (by omega) (hR.hput hW.1.1 hW.1.2.1 (k := 1) (by omega) rfl k _) (hF.trans (rc_F.up 11 (by omega) rfl))
theorem c_sdo (hW : sp_WF σ nd ns nh hr) (hh : hr ≤ 999) {N : Nat} (hN : N ≤ 40) {p1 p2 : Int32} (e1 : p1 = nI N) {h0 : gw_H} {Q : Int32 → gw_H → Prop}
    (hq : ∀ h', rc_F 24 h0 h' → Q (sp_hv (sp_so σ nd nh p2 N).1 (-1) nh) h') :
    ∀ (n k : Nat) (h : gw_H), k ≤ N → N ≤ k + n → rc_C 24 h (sp_so σ nd nh p2 k).1 nd ns nh → rc_F 24 h0 h → wl_X5_seeds_35 p1 p2 Q (n + 1) (sp_so σ nd nh p2 k).2 (nI k) h := by
  have h6 := hW.1.2.2.1
  intro n
  induction n with
  | zero =>
    intro k h hk hn hR hF
    have : k = N := by omega
    subst this
    unfold wl_X5_seeds_35
    exact br_t (by rw [e1]; exact nI_le (Nat.le_refl _) (by omega)) (c_hv (hW.so p2 k (by omega)) hR (Or.inl rfl) (hq h hF))
  | succ n ih =>
    intro k h hk hn hR hF
    unfold wl_X5_seeds_35
    refine pk_le N k (fun g => ?_) (fun g => ?_) e1 rfl (by omega) (by omega)
    · have : k = N := by omega
      subst this
      exact c_hv (hW.so p2 k (by omega)) hR (Or.inl rfl) (hq h hF)
    · refine ⟨nh + 1, c_sdi (hW.so p2 k (by omega)) (by omega) (h0 := h0) (fun h' a1 a2 => ?_) nh 0 h (by omega) (by omega) hR hF⟩
      rw [nI_1]
      exact ih (k + 1) h' (by omega) (by omega) a2 a1
theorem m_sdi (hW : sp_WF τ nd ns nh hr) (hh : hr + 1 < 100000) {p1 p2 z0 x5 : Int32} {h0 : gw_H} {Q : Int32 → gw_H → Prop} {K : Int32 → Int32 → gw_H → Prop}
    (hq : ∀ h', rm_F h0 h' → rm_M h' (sp_ho (sp_sd τ z0 nh).1 nd nh) → K (sp_sd τ z0 nh).2 (x5 + 1) h') :
    ∀ (n k : Nat) (h : gw_H), k ≤ nh → nh ≤ k + n → rm_M h (sp_sd τ z0 k).1 → rm_F h0 h → wl_X6_seeds_37 p1 p2 K Q (n + 1) (sp_sd τ z0 k).2 x5 (nI k) h := by
  have h6 := hW.1.2.2.1
  have e3 : ∀ k h, rm_M h (sp_sd τ z0 k).1 → h 2 3 = nI nh := fun k h hM1 => (hM1 3 (by omega)).trans (hW.sd z0 k).2.1.2.2.1
  intro n
  induction n with
  | zero =>
    intro k h hk hn hM1 hF
    have : k = nh := by omega
    subst this
    unfold wl_X6_seeds_37
    exact br_t (by rw [e3 k h hM1]; exact nI_le (Nat.le_refl _) (by omega)) (m_hour' (hW.sd z0 k) hM1 (fun h' a1 a2 => hq h' (hF.trans a2) a1))
  | succ n ih =>
    intro k h hk hn hM1 hF
    unfold wl_X6_seeds_37
    refine pk_le nh k (fun g => ?_) (fun g => ?_) (e3 k h hM1) rfl (by omega) (by omega)
    · have : k = nh := by omega
      subst this
      exact m_hour' (hW.sd z0 k) hM1 (fun h' a1 a2 => hq h' (hF.trans a2) a1)
    · refine m_pu k 1 rfl rfl (by omega) (by omega) ?_
      rw [nI_1]
      exact ih (k + 1) _ (by omega) (by omega) (hM1.up _ _) (hF.trans (fun c h2 _ _ _ _ _ => gw_up_ne h2))
theorem m_sdo (hW : sp_WF σ nd ns nh hr) (hh : hr ≤ 999) {N : Nat} (hN : N ≤ 40) {p1 p2 : Int32} (e1 : p1 = nI N) {h0 : gw_H} {Q : Int32 → gw_H → Prop}
    (hq : ∀ h', rm_M h' σ → rq_F h0 h' → Q (sp_hv (sp_so σ nd nh p2 N).1 (-1) nh) h') :
    ∀ (n k : Nat) (h : gw_H), k ≤ N → N ≤ k + n → rm_M h (sp_so σ nd nh p2 k).1 → rm_5 h σ → rq_F h0 h → wl_X6_seeds_28 p1 p2 Q (n + 1) (sp_so σ nd nh p2 k).2 (nI k) h := by
  have h6 := hW.1.2.2.1
  have fin : ∀ h, rm_M h (sp_so σ nd nh p2 N).1 → rm_5 h σ → rq_F h0 h → wp_X6_haveIt h (-1) (fun r_7 h_6 => (wp_X6_ends h_6 (fun _ h_8 => Q r_7 h_8))) := fun h hM1 h5 hF =>
    m_hv (hW.so p2 N (by omega)) hM1 (m_end h5 (fun h' a1 a2 a3 => hq h' a1 (hF.trans (rf2 a3))))
  intro n
  induction n with
  | zero =>
    intro k h hk hn hM1 h5 hF
    have : k = N := by omega
    subst this
    unfold wl_X6_seeds_28
    exact br_t (by rw [e1]; exact nI_le (Nat.le_refl _) (by omega)) (fin h hM1 h5 hF)
  | succ n ih =>
    intro k h hk hn hM1 h5 hF
    unfold wl_X6_seeds_28
    refine pk_le N k (fun g => ?_) (fun g => ?_) e1 rfl (by omega) (by omega)
    · have : k = N := by omega
      subst this
      exact fin h hM1 h5 hF
    · refine ⟨nh + 1, m_sdi (hW.so p2 k (by omega)) (by omega) (h0 := h) (fun h' a1 a2 => ?_) nh 0 h (by omega) (by omega) hM1 rm_F.refl⟩
      rw [nI_1]
      exact ih (k + 1) h' (by omega) (by omega) a2 (h5.F a1) (hF.trans a1.q)
theorem o_seeds (R : RR hC hM) {p1 p2 : Int32} : wp_X5_seeds hC p1 p2 (fun r hC' => wp_X6_seeds hM p1 p2 (rr_A r hC')) := by
  obtain ⟨σ, nd, ns, nh, hr, S⟩ := R
  have S : RS hC hM σ nd ns nh hr := S
  obtain ⟨hW, hh, hR, hM1, hX⟩ := id S
  unfold wp_X5_seeds
  refine c_out ⟨fun c => ?_, fun c => S.rf (sp_outk c) (fun Q q => ?_)⟩
  · obtain ⟨N, -, hN, rfl⟩ := sp_outn (lo := 1) (hi := 40) rfl rfl (by omega) (by omega) c
    refine c_ta hW hR (by omega) (fun h' a1 a2 a3 a4 => ⟨N + 1, c_sdo hW hh hN rfl (fun h2 b1 => ?_) N 0 h' (by omega) (by omega) a1 rc_F.refl⟩)
    unfold wp_X6_seeds
    exact m_wi (br_t c (m_beg hM1 (fun h1 d1 d2 d3 => ⟨N + 1, m_sdo hW hh hN rfl (fun h3 f1 f2 => ⟨rfl, S.q (a4.trans b1) f1 ((rf5 d3).trans f2)⟩) N 0 h1 (by omega) (by omega) d1 d2 rq_F.refl⟩)))
  · unfold wp_X6_seeds
    exact m_wi (br_f c q)
/-! rows and letters -/
theorem o_row (R : RR hC hM) {p1 : Int32} : wp_X5_row hC p1 (fun r hC' => wp_X6_row hM p1 (rr_A r hC')) := by
  obtain ⟨σ, nd, ns, nh, hr, S⟩ := R
  have S : RS hC hM σ nd ns nh hr := S
  obtain ⟨hW, hh, hR, hM1, hX⟩ := id S
  obtain ⟨⟨k1, k2⟩, ⟨r, r1, r2, r3, r4⟩, ⟨m, l1, l2, l3, l4⟩, hF⟩ := id hX
  have rz6 : ¬ (-6 : Int32) = 0 := by decide
  have mr : ∀ {p : Int32}, ¬ p = 0 → ∀ {Q : Int32 → gw_H → Prop}, wp_X6_refuse hM p Q → wk_X6_row_24 p1 Q p hM := by
    intro p hp Q q
    unfold wk_X6_row_24; exact br_f hp q
  unfold wp_X5_row
  refine c_out ⟨fun c => pk_lt r 6 (fun g => ?_) (fun g => S.rf rk6 (fun Q q => ?_)) r2 rfl (by omega) (by omega), fun c => S.rf (sp_outk c) (fun Q q => ?_)⟩
  · obtain ⟨v, -, hv, rfl⟩ := sp_outn (lo := 0) (hi := 9) rfl rfl (by omega) (by omega) c
    refine c_put r r2 g (by omega) ?_
    unfold wp_X6_row
    refine m_wi (bn_t c (pk_ne r 6 (fun _ => ?_) (fun z => by omega) r3 rfl (by omega) (by omega)))
    unfold wk_X6_row_24
    rw [r3, nI_clamp (by omega), gw_up_ne (c := 13) (by omega), gw_up_ne (c := 72) (by omega), r2, r3, nI_1, gw_up_ee, gw_up_ee]
    refine br_t c ⟨vp_in_nI (by omega) (by omega), rfl, σ, nd, ns, nh, hr, hW, hh, (hR.irr (fun m hm => by omega)).irr (fun m hm => by omega), (hM1.congr (gw_up_ne (by omega))).congr (gw_up_ne (by omega)), ⟨?_, ?_⟩, ⟨r + 1, by omega, gw_up_ee, gw_up_ee, fun i hi => ?_⟩, ⟨m, l1, ?_, ?_, ?_⟩, ?_⟩
    · rw [gw_up_en (by omega), gw_up_en (by omega), gw_up_ne (by omega), gw_up_ne (by omega)]; exact k1
    · rw [gw_up_en (by omega), gw_up_ne (by omega), gw_up_ne (by omega), gw_up_ne (by omega)]
      refine k2.imp id (fun q => ⟨q.1, ?_⟩)
      obtain ⟨-, σ, nd, ns, nh, hr, q1, q2, q3, q4⟩ := q
      exact ⟨σ, nd, ns, nh, hr, q1, q2, (q3.irr (fun m hm => by omega)).irr (fun m hm => by omega), q4⟩
    · rw [gw_up_ne (c := 0) (by omega), gw_up_ne (c := 0) (by omega)]
      by_cases e : i = r
      · subst e; rw [gw_up_ee, gw_up_ee]; exact ⟨v, by omega, rfl, rfl⟩
      · rw [gw_up_en e, gw_up_en e]; exact r4 i (by omega)
    · rw [gw_up_ne (by omega), gw_up_ne (by omega)]; exact l2
    · rw [gw_up_en (by omega), gw_up_ne (by omega)]; exact l3
    · rw [gw_up_ne (by omega), gw_up_ne (by omega), gw_up_ne (by omega), gw_up_ne (by omega)]; exact l4
    · unfold rr_F; rw [gw_up_ne (by omega), gw_up_ne (by omega), gw_up_ne (by omega), gw_up_ne (by omega)]; exact hF
  · unfold wp_X6_row
    exact m_wi (bn_t c (pk_ne r 6 (fun z => by omega) (fun _ => mr rz6 q) r3 rfl (by omega) (by omega)))
  · unfold wp_X6_row
    exact m_wi (bn_f c (mr c q))
theorem o_letter (R : RR hC hM) {p1 : Int32} : wp_X5_letter hC p1 (fun r hC' => wp_X6_letter hM p1 (rr_A r hC')) := by
  obtain ⟨σ, nd, ns, nh, hr, S⟩ := R
  have S : RS hC hM σ nd ns nh hr := S
  obtain ⟨hW, hh, hR, hM1, hX⟩ := id S
  obtain ⟨⟨k1, k2⟩, ⟨m, l1, l2, l3, l4⟩, ⟨r, r1, r2, r3, r4⟩, hF⟩ := id hX
  have rz6 : ¬ (-6 : Int32) = 0 := by decide
  have mr : ∀ {p : Int32}, ¬ p = 0 → ∀ {Q : Int32 → gw_H → Prop}, wp_X6_refuse hM p Q → wk_X6_letter_25 p1 Q p hM := by
    intro p hp Q q
    unfold wk_X6_letter_25; exact br_f hp q
  unfold wp_X5_letter wp_X4_isFull
  refine c_out ⟨fun c => pk_lt r 96 (fun g => br_t rfl ?_) (fun g => br_f rr_dec1 (S.rf rk6 (fun Q q => ?_))) r2 rfl (by omega) (by omega), fun c => S.rf (sp_outk c) (fun Q q => ?_)⟩
  · obtain ⟨v, -, hv, rfl⟩ := sp_outn (lo := 0) (hi := 255) rfl rfl (by omega) (by omega) c
    unfold wp_X4_add
    refine c_put r r2 g (by omega) ?_
    unfold wp_X6_letter
    refine m_wi (bn_t c (pk_ne r 96 (fun _ => ?_) (fun z => by omega) r3 rfl (by omega) (by omega)))
    unfold wk_X6_letter_25
    rw [r3, nI_clamp (by omega), gw_up_ne (c := 11) (by omega), gw_up_ne (c := 71) (by omega), r2, r3, nI_1, gw_up_ee, gw_up_ee]
    refine br_t c ⟨vp_in_nI (by omega) (by omega), rfl, σ, nd, ns, nh, hr, hW, hh, (hR.irr (fun m hm => by omega)).irr (fun m hm => by omega), (hM1.congr (gw_up_ne (by omega))).congr (gw_up_ne (by omega)), ⟨?_, ?_⟩, ⟨m, l1, ?_, ?_, ?_⟩, ⟨r + 1, by omega, gw_up_ee, gw_up_ee, fun i hi => ?_⟩, ?_⟩
    · rw [gw_up_ne (by omega), gw_up_en (by omega), gw_up_ne (by omega), gw_up_ne (by omega)]; exact k1
    · rw [gw_up_ne (by omega), gw_up_ne (by omega), gw_up_ne (by omega), gw_up_ne (by omega)]
      refine k2.imp id (fun q => ⟨q.1, ?_⟩)
      obtain ⟨-, σ, nd, ns, nh, hr, q1, q2, q3, q4⟩ := q
      exact ⟨σ, nd, ns, nh, hr, q1, q2, (q3.irr (fun m hm => by omega)).irr (fun m hm => by omega), q4⟩
    · rw [gw_up_ne (by omega), gw_up_ne (by omega)]; exact l2
    · rw [gw_up_en (by omega), gw_up_ne (by omega)]; exact l3
    · rw [gw_up_ne (by omega), gw_up_ne (by omega), gw_up_ne (by omega), gw_up_ne (by omega)]; exact l4
    · rw [gw_up_ne (c := 70) (by omega), gw_up_ne (c := 0) (by omega)]
      by_cases e : i = r
      · subst e; rw [gw_up_ee, gw_up_ee]; exact ⟨v, by omega, rfl, rfl⟩
      · rw [gw_up_en e, gw_up_en e]; exact r4 i (by omega)
    · unfold rr_F; rw [gw_up_ne (by omega), gw_up_ne (by omega), gw_up_ne (by omega), gw_up_ne (by omega)]; exact hF
  · unfold wp_X6_letter
    exact m_wi (bn_t c (pk_ne r 96 (fun z => by omega) (fun _ => mr rz6 q) r3 rfl (by omega) (by omega)))
  · unfold wp_X6_letter
    exact m_wi (bn_f c (mr c q))
/-! the image -/
theorem o_image (R : RR hC hM) : wp_X5_image hC (fun r hC' => wp_X6_image hM (rr_A r hC')) := by
  obtain ⟨σ, nd, ns, nh, hr, S⟩ := R
  have S : RS hC hM σ nd ns nh hr := S
  obtain ⟨hW, hh, hR, hM1, hX⟩ := id S
  obtain ⟨⟨k1, k2⟩, ⟨m, l1, l2, l3, l4⟩, ⟨r, r1, r2, r3, r4⟩, hF⟩ := id hX
  unfold wp_X5_image
  refine c_ta hW hR (by omega) (fun h' a1 a2 a3 a4 => ?_)
  unfold wp_X6_image
  refine m_lay (by omega) (fun h2 b1 b2 => ?_)
  have e0 : ∀ c, c < 47 ∨ 70 ≤ c → h' c = hC c := fun c hc => a4 c (fun k hk => by omega)
  have R1 : rc_C 1 h' σ nd ns nh := hR.congr (fun k hk => e0 _ (by omega))
  refine ⟨?_, σ, nd, ns, nh, hr, hW, hh, R1.irr (fun m hm => by omega), (hM1.congr (b2 2 (by omega))).congr (gw_up_ne (by omega)), ⟨?_, Or.inr ⟨gw_up_ee, σ, nd, ns, nh, hr, hW, hh, a1.irr (fun m hm => by omega), ?_⟩⟩, ⟨m, l1, ?_, ?_, ?_⟩, ⟨r, r1, ?_, ?_, ?_⟩, ?_⟩
  · rw [gw_up_ne (by omega), gw_up_ne (by omega), b2 2 (by omega), hM1 4 (by omega), R1.1.2.2.2.1]
  · rw [gw_up_ee, gw_up_ee]
  · rw [gw_up_ne (by omega)]; exact fun i hi => (b1 i hi).trans (hM1 i hi)
  · rw [gw_up_en (by omega), e0 0 (by omega)]; exact l2
  · rw [gw_up_en (by omega), b2 0 (by omega)]; exact l3
  · rw [gw_up_ne (by omega), gw_up_ne (by omega), e0 72 (by omega), b2 13 (by omega)]; exact l4
  · rw [gw_up_ne (by omega), e0 70 (by omega)]; exact r2
  · rw [gw_up_en (by omega), b2 0 (by omega)]; exact r3
  · rw [gw_up_ne (by omega), gw_up_ne (by omega), e0 71 (by omega), b2 11 (by omega)]; exact r4
  · unfold rr_F; rw [gw_up_ne (by omega), gw_up_ne (by omega), e0 73 (by omega), b2 1 (by omega)]; exact hF
theorem o_on (R : RR hC hM) : wp_X5_on hC (fun r hC' => wp_X6_on hM (rr_A r hC')) := by
  obtain ⟨σ, nd, ns, nh, hr, S⟩ := R
  have S : RS hC hM σ nd ns nh hr := S
  obtain ⟨hW, hh, hR, hM1, hX⟩ := id S
  obtain ⟨⟨k1, k2⟩, -⟩ := id hX
  unfold wp_X5_on
  refine ⟨fun c => ?_, fun c => S.rf rk3 (fun Q q => ?_)⟩
  · rcases k2 with z | ⟨-, τ, nd', ns', nh', hr', q1, q2, q3, q4⟩
    · exact absurd z c
    · refine c_ta q1 q3 (by omega) (fun h' a1 a2 a3 a4 => ?_)
      unfold wp_X6_on
      refine bn_f (by rw [← k1]; exact c) (m_lay (by omega) (fun h2 b1 b2 => ?_))
      have M2 : rm_M h2 τ := fun i hi => (b1 i hi).trans (q4 i hi)
      exact ⟨by rw [M2 4 (by omega)]; exact a1.1.2.2.2.1, RR.n q1 q2 a1 M2 hX a4 (rf2 b2)⟩
  · unfold wp_X6_on
    exact bn_t (by rw [← k1]; exact c) q
end OPS12
