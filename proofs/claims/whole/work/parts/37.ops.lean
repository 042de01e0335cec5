section OPS9
variable {hC hM : gw_H} {σ τ : Nat → Int32} {nd ns nh hr ns' : Nat}
/-! a song more -/
def sp_as (σ : Nat → Int32) (ns : Nat) (k p e : Int32) : Nat → Int32 := upd (upd (upd (upd σ (22 + 3 * ns) k) (22 + 3 * ns + 1) p) (22 + 3 * ns + 2) e) 2 (nI (ns + 1))
theorem sp_as_n {k p e : Int32} {i : Nat} (h2 : i ≠ 2) (h : i < 22 + 3 * ns ∨ 22 + 3 * ns + 2 < i) : sp_as σ ns k p e i = σ i := by
  unfold sp_as upd
  rw [if_neg h2, if_neg (by omega), if_neg (by omega), if_neg (by omega)]
theorem sp_as_2 {k p e : Int32} : sp_as σ ns k p e 2 = nI (ns + 1) := by unfold sp_as upd; exact if_pos rfl
theorem sp_as_s {k p e : Int32} : sp_sg (sp_as σ ns k p e) ns 0 = k ∧ sp_sg (sp_as σ ns k p e) ns 1 = p ∧ sp_sg (sp_as σ ns k p e) ns 2 = e := by
  unfold sp_sg sp_as upd
  refine ⟨?_, ?_, ?_⟩
  · rw [if_neg (by omega), if_neg (by omega), if_neg (by omega), if_pos (by omega)]
  · rw [if_neg (by omega), if_neg (by omega), if_pos (by omega)]
  · rw [if_neg (by omega), if_pos (by omega)]
theorem sp_WF.as (hW : sp_WF σ nd ns nh hr) (hn : ns < 5) {k p e : Nat} (hk : k < 6) (hp : p < 10) (he1 : 1 ≤ e) (he : e < 10) : sp_WF (sp_as σ ns (nI k) (nI p) (nI e)) nd (ns + 1) nh hr := by
  obtain ⟨⟨v1, v2, v3, v4⟩, ⟨u1, u2, u3, u4⟩, w3, w4, w5, w6, w7⟩ := hW
  refine ⟨⟨v1, by omega, v3, v4⟩, ⟨?_, sp_as_2, ?_, ?_⟩, ?_, ?_, fun d hd => ?_, fun i hi => ?_, fun j hj => ?_⟩
  · rw [sp_as_n (by omega) (by omega)]; exact u1
  · rw [sp_as_n (by omega) (by omega)]; exact u3
  · rw [sp_as_n (by omega) (by omega)]; exact u4
  · rw [sp_as_n (by omega) (by omega)]; exact w3
  · rw [sp_as_n (by omega) (by omega)]; exact w4
  · unfold sp_dr; rw [sp_as_n (by omega) (by omega), sp_as_n (by omega) (by omega)]; exact w5 d hd
  · by_cases g : i = ns
    · subst g
      obtain ⟨a, b, c⟩ := sp_as_s (σ := σ) (ns := i) (k := nI k) (p := nI p) (e := nI e)
      rw [a, b, c]
      exact ⟨⟨k, hk, rfl⟩, ⟨p, hp, rfl⟩, ⟨e, he1, he, rfl⟩⟩
    · unfold sp_sg; rw [sp_as_n (by omega) (by omega), sp_as_n (by omega) (by omega), sp_as_n (by omega) (by omega)]; exact w6 i (by omega)
  · unfold sp_hd; rw [sp_as_n (by omega) (by omega), sp_as_n (by omega) (by omega), sp_as_n (by omega) (by omega), sp_as_n (by omega) (by omega), sp_as_n (by omega) (by omega), sp_as_n (by omega) (by omega)]
    obtain ⟨q1, q2, q3, q4, q5, q6⟩ := w7 j hj
    exact ⟨q1, q2, q3, q4.imp id (fun ⟨i, hi, z⟩ => ⟨i, by omega, z⟩), q5, q6⟩
theorem rc_C.as {h : gw_H} {b : Nat} (hR : rc_C b h σ nd ns nh) (h8 : nd ≤ 8) (hn : ns < 5) {k p e : Int32} : rc_C b (gw_up (gw_up (gw_up (gw_up h (b + 6) ns k) (b + 7) ns p) (b + 8) ns e) (b + 5) 3 (nI (ns + 1))) (sp_as σ ns k p e) nd (ns + 1) nh := by
  obtain ⟨⟨r1, r2, r3, r4, r5⟩, rD, rS, rH⟩ := hR
  refine ⟨⟨?_, ?_, ?_, ?_, ?_⟩, fun d hd => ?_, fun i hi => ?_, fun j hj => ?_⟩
  · rw [gw_up_ne (by omega), gw_up_ne (by omega), gw_up_ne (by omega), gw_up_ne (by omega), sp_as_n (by omega) (by omega)]; exact r1
  · rw [gw_up_ee, sp_as_2]
  · rw [gw_up_ne (by omega), gw_up_ne (by omega), gw_up_ne (by omega), gw_up_ne (by omega), sp_as_n (by omega) (by omega)]; exact r3
  · rw [gw_up_ne (by omega), gw_up_ne (by omega), gw_up_ne (by omega), gw_up_ne (by omega), sp_as_n (by omega) (by omega)]; exact r4
  · rw [gw_up_ne (by omega), gw_up_ne (by omega), gw_up_ne (by omega), gw_up_ne (by omega), sp_as_n (by omega) (by omega)]; exact r5
  · have z : ∀ k', k' = 2 ∨ k' = 3 ∨ k' = 4 → (gw_up (gw_up (gw_up (gw_up h (b + 6) ns k) (b + 7) ns p) (b + 8) ns e) (b + 5) 3 (nI (ns + 1))) (b + k') = h (b + k') := fun k' hk' => by
      rw [gw_up_ne (by omega), gw_up_ne (by omega), gw_up_ne (by omega), gw_up_ne (by omega)]
    rw [z 2 (by omega), z 3 (by omega), z 4 (by omega)]
    unfold sp_dr sp_op
    rw [sp_as_n (by omega) (by omega), sp_as_n (by omega) (by omega), sp_as_n (by omega) (by omega)]
    exact rD d hd
  · by_cases g : i = ns
    · subst g
      obtain ⟨a, b', c⟩ := sp_as_s (σ := σ) (ns := i) (k := k) (p := p) (e := e)
      rw [a, b', c]
      refine ⟨?_, ?_, ?_⟩
      · rw [gw_up_ne (by omega), gw_up_ne (by omega), gw_up_ne (by omega), gw_up_ee]
      · rw [gw_up_ne (by omega), gw_up_ne (by omega), gw_up_ee]
      · rw [gw_up_ne (by omega), gw_up_ee]
    · unfold sp_sg; rw [sp_as_n (by omega) (by omega), sp_as_n (by omega) (by omega), sp_as_n (by omega) (by omega)]
      rw [gw_up_ne (by omega), gw_up_ne (by omega), gw_up_ne (by omega), gw_up_en g, gw_up_ne (by omega), gw_up_ne (by omega), gw_up_en g, gw_up_ne (by omega), gw_up_ne (by omega), gw_up_en g, gw_up_ne (by omega), gw_up_ne (by omega)]
      exact rS i (by omega)
  · have z : ∀ k', 10 ≤ k' → (gw_up (gw_up (gw_up (gw_up h (b + 6) ns k) (b + 7) ns p) (b + 8) ns e) (b + 5) 3 (nI (ns + 1))) (b + k') = h (b + k') := fun k' hk' => by
      rw [gw_up_ne (by omega), gw_up_ne (by omega), gw_up_ne (by omega), gw_up_ne (by omega)]
    rw [z 10 (by omega), z 11 (by omega), z 12 (by omega), z 13 (by omega), z 14 (by omega), z 15 (by omega)]
    unfold sp_hd; rw [sp_as_n (by omega) (by omega), sp_as_n (by omega) (by omega), sp_as_n (by omega) (by omega), sp_as_n (by omega) (by omega), sp_as_n (by omega) (by omega), sp_as_n (by omega) (by omega)]
    exact rH j hj
theorem c_as (hW : sp_WF σ nd ns nh hr) {h : gw_H} {b : Nat} (hR : rc_C b h σ nd ns nh) {p1 p2 p3 : Int32} {Q : Int32 → gw_H → Prop} (f : ns = 5 ∨ p3 < 1 → Q 0 h) (g : ns < 5 → ¬ p3 < 1 → ∀ h', rc_C b h' (sp_as σ ns p1 p2 p3) nd (ns + 1) nh → rc_F b h h' → Q 1 h') : wp_X3_add h b p1 p2 p3 Q := by
  have h5 := hW.1.2.1
  have h8 := hW.1.1
  have e5 := (rr_e5 hW hR).2.1
  unfold wp_X3_add wp_X3_isFull
  refine pk_lt ns 5 (fun c => bn_t rfl (br_c (fun d => ?_) (fun d => f (Or.inr (Int32.not_le.mp d))))) (fun c => bn_f rr_dec1 (f (Or.inl (by omega)))) e5 rfl (by omega) (by omega)
  have d' : ¬ p3 < 1 := Int32.not_lt.mpr d
  refine c_put ns e5 (by omega) (by omega) (c_put ns (by rw [gw_up_ne (by omega)]; exact e5) (by omega) (by omega) (c_put ns (by rw [gw_up_ne (by omega), gw_up_ne (by omega)]; exact e5) (by omega) (by omega) ?_))
  rw [gw_up_ne (by omega), gw_up_ne (by omega), gw_up_ne (by omega), e5, nI_1]
  exact g c d' _ (hR.as h8 c) ((rc_F.up 6 (by omega) rfl).trans ((rc_F.up 7 (by omega) rfl).trans ((rc_F.up 8 (by omega) rfl).trans (rc_F.up 5 (by omega) rfl))))
/-! write -/
def sp_wrs (σ : Nat → Int32) (ns : Nat) (e c : Nat) : Nat → Int32 := sp_gt (sp_as σ ns (nI (c / 10)) (nI (c % 10)) (nI e)) 0 (nI ns)
def sp_wrf (σ : Nat → Int32) (nd ns nh N e : Nat) : Nat → Int32 := fun c => sp_hv (sp_hn nd nh N (sp_wrs σ ns e c)) (nI ns) nh
def sp_wr (σ : Nat → Int32) (nd ns nh N e : Nat) (s : Int32) : Nat → Int32 × Int32 := sp_bs (sp_gr (sp_wrf σ nd ns nh N e)) (sp_wrf σ nd ns nh N e) nI (s, -9)
theorem sp_wr_e (h6 : nh ≤ 6) {N e : Nat} : ∀ k, sp_wr σ nd ns nh N e (-1) (k + 1) = sp_wr σ nd ns nh N e (-9) (k + 1) := by
  intro k
  induction k with
  | zero =>
    obtain ⟨m, hm, z⟩ := sp_hvn (sp_hn nd nh N (sp_wrs σ ns e 0)) (nI ns) nh
    have z' : sp_wrf σ nd ns nh N e 0 = nI m := z
    have a : sp_wr σ nd ns nh N e (-1) 1 = (sp_wrf σ nd ns nh N e 0, nI 0) := sp_bs_t (by unfold sp_gr; exact decide_eq_true (by rw [z']; exact fun q => absurd (Int32.le_trans (nI_pos' (by omega)) q) (show ¬ (0 : Int32) ≤ -1 by decide)))
    have b : sp_wr σ nd ns nh N e (-9) 1 = (sp_wrf σ nd ns nh N e 0, nI 0) := sp_bs_t (by unfold sp_gr; exact decide_eq_true (by rw [z']; exact sp_n9le (by omega)))
    rw [a, b]
  | succ k ih =>
    unfold sp_wr at ih ⊢
    rw [sp_bs, ih]
    exact (sp_bs.eq_2 _ _ _ _ _).symm
theorem sp_WF.wrs (hW : sp_WF σ nd ns nh hr) (hn : ns < 5) {e : Nat} (he1 : 1 ≤ e) (he : e < 10) {c : Nat} (hc : c < 60) : sp_WF (sp_wrs σ ns e c) nd (ns + 1) nh hr :=
  (hW.as hn (by omega) (by omega) he1 he).gt 0 (Or.inr ⟨ns, by omega, rfl⟩)
theorem c_hiw (hW : sp_WF σ nd ns nh hr) (hh : hr ≤ 999) (hn : ns < 5) (h0 : 0 < nh) {N e c : Nat} (hN : N ≤ 60) (he1 : 1 ≤ e) (he : e < 10) (hc : c < 60) {h : gw_H} (hR : rc_C 1 h σ nd ns nh) {p1 p2 p3 p4 : Int32} (e1 : p1 = nI (c / 10)) (e2 : p2 = nI (c % 10)) (e3 : p3 = nI e) (e4 : p4 = nI N) {Q : Int32 → gw_H → Prop}
    (hq : ∀ h', rc_F 24 h h' → Q (sp_wrf σ nd ns nh N e c) h') : wp_X5_holdersIfWritten h p1 p2 p3 p4 Q := by
  subst e1 e2 e3 e4
  unfold wp_X5_holdersIfWritten
  refine c_ta hW hR (by omega) (fun h1 a1 a2 a3 a4 => c_as hW a1 (fun z => ?_) (fun _ _ h2 b1 b2 => ?_))
  · rcases z with z | z
    · omega
    · exact absurd z (nI_nlt (a := e) (b := 1) he1 (by omega))
  · have e29 : h1 29 3 = nI ns := (rr_e5 hW a1).2.1
    rw [e29]
    have W1 := hW.as hn (k := c / 10) (p := c % 10) (e := e) (by omega) (by omega) he1 he
    refine c_gv W1 b1 0 rfl h0 (fun z => c_nr rfl (by omega) (by omega) z) (fun i hi ei h3 d1 d2 => ?_)
    have : i = ns := ((nI_eq (by omega) (by omega)).mp ei).symm
    subst this
    have W2 := hW.wrs hn he1 he hc
    exact c_phs' W2 hN (by omega) rfl d1 (fun h4 f1 f2 => c_hv (W2.hn N (by omega)) f1 (Or.inr (nI_pos' (by omega))) (hq _ (a4.trans (b2.trans (d2.trans f2)))))
theorem c_wri (hW : sp_WF σ nd ns nh hr) (hh : hr ≤ 999) (hn : ns < 5) (h0' : 0 < nh) {N e : Nat} (hN : N ≤ 60) (he1 : 1 ≤ e) (he : e < 10) {p1 p2 p3 : Int32} (e1 : p1 = nI e) (e2 : p2 = nI N) {h0 : gw_H} {Q : Int32 → gw_H → Prop} {K : Int32 → Int32 → Int32 → gw_H → Prop} {a : Nat} (ha : a < 6)
    (hq : ∀ h', rc_F 24 h0 h' → rc_C 1 h' σ nd ns nh → K (sp_wr σ nd ns nh N e (-1) (10 * (a + 1))).1 (sp_wr σ nd ns nh N e (-1) (10 * (a + 1))).2 (nI (a + 1)) h') :
    ∀ (n k : Nat) (h : gw_H), k ≤ 10 → 10 ≤ k + n → rc_C 1 h σ nd ns nh → rc_F 24 h0 h → wl_X5_write_99 p1 p2 p3 K Q (n + 1) (sp_wr σ nd ns nh N e (-1) (10 * a + k)).1 (sp_wr σ nd ns nh N e (-1) (10 * a + k)).2 (nI a) (nI k) h := by
  intro n
  induction n with
  | zero =>
    intro k h hk hn hR hF
    have : k = 10 := by omega
    subst this
    unfold wl_X5_write_99
    rw [nI_1]
    exact br_t (by decide) (hq h hF hR)
  | succ n ih =>
    intro k h hk hn' hR hF
    unfold wl_X5_write_99
    refine pk_lt 9 k (fun g => ?_) (fun g => ?_) rfl rfl (by omega) (by omega)
    · have : k = 10 := by omega
      subst this
      rw [nI_1]
      exact hq h hF hR
    · refine c_hiw hW hh hn h0' (c := 10 * a + k) hN he1 he (by omega) hR (by rw [show (10 * a + k) / 10 = a by omega]) (by rw [show (10 * a + k) % 10 = k by omega]) e1 e2 (fun h3 F => ?_)
      have nx := ih (k + 1) h3 (by omega) (by omega) (rc_1_24 hR F) (hF.trans F)
      have el : 10 * nI a + nI k = nI (10 * a + k) := by rw [show (10 : Int32) = nI 10 from rfl, pk_mul, nI_add]
      refine ⟨fun d => ?_, fun d => ?_⟩
      · unfold wk_X5_write_139
        rw [nI_1]
        have e : sp_wr σ nd ns nh N e (-1) (10 * a + (k + 1)) = sp_wr σ nd ns nh N e (-1) (10 * a + k) := sp_bs_f (decide_eq_false (fun q => q d))
        rw [e] at nx
        exact nx
      · unfold wk_X5_write_139
        rw [nI_1, el]
        have e : sp_wr σ nd ns nh N e (-1) (10 * a + (k + 1)) = (sp_wrf σ nd ns nh N e (10 * a + k), nI (10 * a + k)) := sp_bs_t (decide_eq_true d)
        rw [e] at nx
        exact nx
theorem c_wro (hW : sp_WF σ nd ns nh hr) (hh : hr ≤ 999) (hn : ns < 5) (h0' : 0 < nh) {N e : Nat} (hN : N ≤ 60) (he1 : 1 ≤ e) (he : e < 10) {p1 p2 p3 : Int32} (e1 : p1 = nI e) (e2 : p2 = nI N) {h0 : gw_H} {Q : Int32 → gw_H → Prop}
    (hq : ∀ h', rc_F 24 h0 h' → Q (if p3 = 0 then (sp_wr σ nd ns nh N e (-1) 60).2 else (sp_wr σ nd ns nh N e (-1) 60).1) h') :
    ∀ (n k : Nat) (h : gw_H), k ≤ 6 → 6 ≤ k + n → rc_C 1 h σ nd ns nh → rc_F 24 h0 h → wl_X5_write_89 p1 p2 p3 Q (n + 1) (sp_wr σ nd ns nh N e (-1) (10 * k)).1 (sp_wr σ nd ns nh N e (-1) (10 * k)).2 (nI k) h := by
  have fin : ∀ h, rc_F 24 h0 h → ((¬ p3 = 0 → Q (sp_wr σ nd ns nh N e (-1) (10 * 6)).1 h) ∧ (p3 = 0 → Q (sp_wr σ nd ns nh N e (-1) (10 * 6)).2 h)) := by
    intro h hF
    have := hq h hF
    refine ⟨fun c => ?_, fun c => ?_⟩
    · rw [if_neg c] at this; exact this
    · rw [if_pos c] at this; exact this
  intro n
  induction n with
  | zero =>
    intro k h hk hn hR hF
    have : k = 6 := by omega
    subst this
    unfold wl_X5_write_89
    exact br_t (by decide) (fin h hF)
  | succ n ih =>
    intro k h hk hn' hR hF
    unfold wl_X5_write_89
    refine pk_le 6 k (fun g => ?_) (fun g => ?_) rfl rfl (by omega) (by omega)
    · have : k = 6 := by omega
      subst this
      exact fin h hF
    · exact ⟨11, c_wri hW hh hn h0' hN he1 he e1 e2 g (fun h' b1 b2 => ih (k + 1) h' (by omega) (by omega) b2 b1) 10 0 h (by omega) (by omega) hR hF⟩
theorem m_wrl (hW : sp_WF σ nd ns nh hr) (hh : hr ≤ 999) (hn : ns < 5) (h0' : 0 < nh) {N e : Nat} (hN : N ≤ 60) (he1 : 1 ≤ e) (he : e < 10) {p1 p2 p3 : Int32} (e1 : p1 = nI e) (e2 : p2 = nI N) {h0 : gw_H} {Q : Int32 → gw_H → Prop}
    (hq : ∀ h', rm_M h' σ → rq_F h0 h' → Q (if p3 = 0 then (sp_wr σ nd ns nh N e (-9) 60).2 else (sp_wr σ nd ns nh N e (-9) 60).1) h') :
    ∀ (n k : Nat) (h : gw_H), k ≤ 60 → 60 ≤ k + n → rm_M h σ → rm_5 h σ → rq_F h0 h → wl_X6_write_98 p1 p2 p3 Q (n + 1) (sp_wr σ nd ns nh N e (-9) k).2 (sp_wr σ nd ns nh N e (-9) k).1 (nI k) h := by
  have fin : ∀ h, rm_M h σ → rq_F h0 h → ((¬ p3 = 0 → Q (sp_wr σ nd ns nh N e (-9) 60).1 h) ∧ (p3 = 0 → Q (sp_wr σ nd ns nh N e (-9) 60).2 h)) := by
    intro h hM1 hF
    have := hq h hM1 hF
    refine ⟨fun c => ?_, fun c => ?_⟩
    · rw [if_neg c] at this; exact this
    · rw [if_pos c] at this; exact this
  intro n
  induction n with
  | zero =>
    intro k h hk hn hM1 h5 hF
    have : k = 60 := by omega
    subst this
    unfold wl_X6_write_98
    exact br_t (by decide) (fin h hM1 hF)
  | succ n ih =>
    intro k h hk hn' hM1 h5 hF
    unfold wl_X6_write_98
    refine pk_le 60 k (fun g => ?_) (fun g => ?_) rfl rfl (by omega) (by omega)
    · have : k = 60 := by omega
      subst this
      exact fin h hM1 hF
    · have es : h 2 2 = nI ns := (hM1 2 (by omega)).trans hW.2.1.2.1
      have ix0 : 22 + 3 * nI ns = nI (22 + 3 * ns) := by rw [show (3 : Int32) = nI 3 from rfl, show (22 : Int32) = nI 22 from rfl, pk_mul, nI_add]
      have ix1 : nI (22 + 3 * ns) + 1 = nI (22 + 3 * ns + 1) := nI_1 _
      have ix2 : nI (22 + 3 * ns) + 2 = nI (22 + 3 * ns + 2) := nI_add _ 2
      rw [es, ix0, ix1, ix2, nI_clamp (by omega), nI_clamp (by omega), nI_clamp (by omega)]
      refine ⟨vp_in_nI (by omega) (by omega), vp_in_nI (by omega) (by omega), vp_in_nI (by omega) (by omega), ?_⟩
      have W1 := hW.as hn (k := k / 10) (p := k % 10) (e := e) (by omega) (by omega) he1 he
      have W2 := hW.wrs hn he1 he g
      have f10 : nI k / 10 = nI (k / 10) := pk_div (d := 10) (by omega) (by omega) (by omega)
      have f11 : nI k - nI (k / 10) * 10 = nI (k % 10) := by rw [← f10]; exact pk_rem (d := 10) (by omega) (by omega) (by omega)
      rw [f10, f11, e1]
      have e22 : gw_up (gw_up (gw_up h 2 (22 + 3 * ns) (nI (k / 10))) 2 (22 + 3 * ns + 1) (nI (k % 10))) 2 (22 + 3 * ns + 2) (nI e) 2 2 = nI ns := by
        rw [gw_up_en (by omega), gw_up_en (by omega), gw_up_en (by omega), es]
      rw [e22, nI_1]
      have mm : rm_M (gw_up (gw_up (gw_up (gw_up h 2 (22 + 3 * ns) (nI (k / 10))) 2 (22 + 3 * ns + 1) (nI (k % 10))) 2 (22 + 3 * ns + 2) (nI e)) 2 2 (nI (ns + 1))) (sp_as σ ns (nI (k / 10)) (nI (k % 10)) (nI e)) :=
        (((hM1.up _ _).up _ _).up _ _).up _ _
      refine m_gt W1 mm 0 rfl (by omega) (Or.inr (Or.inr ⟨ns, by omega, rfl⟩)) (fun h2 b1 b2 => ?_)
      have b5 : h2 5 = h 5 := by rw [b2 5 (by omega), gw_up_ne (by omega), gw_up_ne (by omega), gw_up_ne (by omega), gw_up_ne (by omega)]
      refine m_hb W2 (by omega) b1 (h5.congr b5) hN e2 (fun h3 d1 d2 d3 => ?_)
      have F2 : rq_F h h3 := (rf2 (fun c hc => by rw [b2 c hc, gw_up_ne hc, gw_up_ne hc, gw_up_ne hc, gw_up_ne hc]) : rq_F h h2).trans d3
      have nx := ih (k + 1) h3 (by omega) (by omega) d1 d2 (hF.trans F2)
      rw [e1] at nx
      refine ⟨fun d => ?_, fun d => ?_⟩
      · unfold wk_X6_write_204
        refine br_t d ?_
        unfold wk_X6_write_220
        rw [nI_1]
        have e' : sp_wr σ nd ns nh N e (-9) (k + 1) = sp_wr σ nd ns nh N e (-9) k := sp_bs_f (decide_eq_false (fun q => q d))
        rw [e'] at nx
        exact nx
      · unfold wk_X6_write_204
        refine br_f d ?_
        unfold wk_X6_write_220
        rw [nI_1]
        have e' : sp_wr σ nd ns nh N e (-9) (k + 1) = (sp_wrf σ nd ns nh N e k, nI k) := sp_bs_t (decide_eq_true d)
        rw [e'] at nx
        exact nx
theorem o_write (R : RR hC hM) {p1 p2 p3 : Int32} : wp_X5_write hC p1 p2 p3 (fun r hC' => wp_X6_write hM p1 p2 p3 (rr_A r hC')) := by
  obtain ⟨σ, nd, ns, nh, hr, S⟩ := R
  have S : RS hC hM σ nd ns nh hr := S
  obtain ⟨hW, hh, hR, hM1, hX⟩ := id S
  have h5 := hW.1.2.1
  have h6 := hW.1.2.2.1
  obtain ⟨e1, e5, e9, -⟩ := rr_e5 hW hR
  have m2 : hM 2 2 = nI ns := (hM1 2 (by omega)).trans hW.2.1.2.1
  have m3 : hM 2 3 = nI nh := (hM1 3 (by omega)).trans hW.2.1.2.2.1
  have rz4 : ¬ (-4 : Int32) = 0 := by decide
  have rz6 : ¬ (-6 : Int32) = 0 := by decide
  have cr : ∀ {p : Int32}, ¬ p = 0 → ∀ {Q : Int32 → gw_H → Prop}, wp_X5_refuse hC p Q → wk_X5_write_67 p1 p2 p3 Q p hC := by
    intro p hp Q q
    unfold wk_X5_write_67; exact br_f hp q
  have cr2 : ∀ {p : Int32}, ¬ p = 0 → ∀ {Q : Int32 → gw_H → Prop}, wp_X5_refuse hC p Q → wk_X5_write_45 p1 p2 p3 Q p hC := by
    intro p hp Q q
    unfold wk_X5_write_45; exact bn_f hp (cr hp q)
  have cr3 : ∀ {p : Int32}, ¬ p = 0 → ∀ {Q : Int32 → gw_H → Prop}, wp_X5_refuse hC p Q → wk_X5_write_29 p1 p2 p3 Q p hC := by
    intro p hp Q q
    unfold wk_X5_write_29; exact bn_f hp (cr2 hp q)
  have mr : ∀ {p : Int32}, ¬ p = 0 → ∀ {Q : Int32 → gw_H → Prop}, wp_X6_refuse hM p Q → wk_X6_write_69 p1 p2 p3 Q p hM := by
    intro p hp Q q
    unfold wk_X6_write_69; exact br_f hp q
  have mr9 : ∀ {Q : Int32 → gw_H → Prop}, wp_X6_refuse hM (-4) Q → wk_X6_write_9 p1 p2 p3 Q hM := by
    intro Q q
    unfold wk_X6_write_9; exact mr rz4 q
  have mr36 : ∀ {Q : Int32 → gw_H → Prop}, wp_X6_refuse hM (-6) Q → wk_X6_write_36 p1 p2 p3 Q hM := by
    intro Q q
    unfold wk_X6_write_36; exact mr rz6 q
  unfold wp_X5_write wp_X5_lengthAndHours
  refine ⟨fun c1 => bn_f rz4 (cr3 rz4 (S.rf rk4 (fun Q q => ?_))), fun c1 => ⟨fun c2 => ⟨fun c3 => bn_f rz6 (cr3 rz6 (S.rf rk6 (fun Q q => ?_))), fun c3 => ⟨fun c4 => bn_t rfl ?_, fun c4 => bn_f rz6 (cr3 rz6 (S.rf rk6 (fun Q q => ?_)))⟩⟩, fun c2 => bn_f rz4 (cr3 rz4 (S.rf rk4 (fun Q q => ?_)))⟩⟩
  · unfold wp_X6_write; exact br_t c1 (mr9 q)
  · unfold wp_X6_write; exact br_f c1 (br_t c2 (br_t c3 (mr36 q)))
  · have md : ∀ {Q : Int32 → gw_H → Prop}, ((¬ ns = 5 → (wp_X6_isIn hM p3 2 (fun r_22 h_21 => ((¬ r_22 = 0 → ((¬ (h_21 2 3) = 0 → (wk_X6_write_69 p1 p2 p3 Q 0 h_21)) ∧ ((h_21 2 3) = 0 → (wk_X6_write_69 p1 p2 p3 Q (-3) h_21)))) ∧ (r_22 = 0 → (wk_X6_write_69 p1 p2 p3 Q (-2) h_21)))))) ∧ (ns = 5 → (wk_X6_write_36 p1 p2 p3 Q hM))) → wp_X6_write hM p1 p2 p3 Q := by
      intro Q q
      unfold wp_X6_write
      refine br_f c1 (br_t c2 (br_f c3 (br_f (Int32.not_lt.mpr c4) ?_)))
      exact pk_ne ns 5 q.1 q.2 m2 rfl (by omega) (by omega)
    unfold wp_X3_isFull
    refine pk_lt ns 5 (fun hn => br_t rfl ?_) (fun hn => br_f rr_dec1 (cr3 rz6 (S.rf rk6 (fun Q q => md (bn_t (by omega) (mr36 q)))))) e5 rfl (by omega) (by omega)
    unfold wk_X5_write_29
    refine bn_t rfl (c_nei (fun q => br_t rfl ?_) (fun q1 q2 => br_f rr_dec1 (cr2 rz2 (S.rf rk2 (fun Q q => md (bn_f (by omega) (m_p2 (fun _ _ => bn_t rfl (mr rz2 q)) (fun k hk ek => ?_))))))))
    · have mp : ∀ {Q : Int32 → gw_H → Prop}, ((¬ nh = 0 → (wk_X6_write_69 p1 p2 p3 Q 0 hM)) ∧ (nh = 0 → (wk_X6_write_69 p1 p2 p3 Q (-3) hM))) → wp_X6_write hM p1 p2 p3 Q := by
        intro Q g
        refine md (bn_f (by omega) (m_p2 (fun z1 z2 => ?_) (fun _ _ _ => bn_f rr_dec1 (pk_ne nh 0 g.1 g.2 m3 rfl (by omega) (by omega)))))
        rcases q with q | q
        · exact absurd q z1
        · exact absurd q z2
      unfold wk_X5_write_45
      refine bn_t rfl (pk_ne nh 0 (fun h0 => ?_) (fun h0 => cr rz3 (S.rf rk3 (fun Q q => mp (bn_t h0 (mr rz3 q))))) e9 rfl (by omega) (by omega))
      obtain ⟨e, he1, he, rfl⟩ : ∃ e, 1 ≤ e ∧ e ≤ 9 ∧ p1 = nI e := sp_outn (L := 1) (U := 9) rfl rfl (by omega) (by omega) (by unfold sp_out; rw [if_pos (Int32.not_lt.mp c1), if_pos (Int32.not_lt.mp c3)])
      obtain ⟨N, -, hN, rfl⟩ : ∃ N, 0 ≤ N ∧ N ≤ 60 ∧ p2 = nI N := sp_outn (L := 0) (U := 60) rfl rfl (by omega) (by omega) (by unfold sp_out; rw [if_pos c2, if_pos c4])
      unfold wk_X5_write_67
      refine br_t rfl ⟨7, c_wro hW hh hn (by omega) hN he1 (by omega) rfl rfl (fun h' a1 => mp (bn_f h0 ?_)) 6 0 hC (by omega) (by omega) hR rc_F.refl⟩
      unfold wk_X6_write_69
      refine br_t rfl (m_beg hM1 (fun h1 b1 b2 b3 => ⟨61, m_wrl hW hh hn (by omega) hN he1 (by omega) rfl rfl (fun h3 f1 f2 => ⟨?_, S.q a1 f1 ((rf5 b3).trans f2)⟩) 60 0 h1 (by omega) (by omega) b1 b2 rq_F.refl⟩))
      rw [sp_wr_e h6 59]
    · have : k = 0 ∨ k = 1 := by omega
      rcases this with rfl | rfl
      · exact absurd ek q1
      · exact absurd ek q2
  · unfold wp_X6_write; exact br_f c1 (br_t c2 (br_f c3 (br_t (Int32.not_le.mp c4) (mr36 q))))
  · unfold wp_X6_write; exact br_f c1 (br_f c2 (mr9 q))
end OPS9
