def sp_osg (c : Nat) : Int32 := if c % 10 = 9 then -9 else nI (c % 10)
def sp_ots (w σ : Nat → Int32) (nd ns nh N c : Nat) : Bool := (decide (c % 10 = 9) || decide (c % 10 < ns)) && (decide (¬ sp_osg c = sp_hd σ (c / 10) 3) && decide (sp_ul w (sp_hn nd nh N (sp_gt σ (c / 10) (sp_osg c))) nh = -9))
/-- in how many ways it comes to what is told; the first -/
def sp_ot (w σ : Nat → Int32) (nd ns nh N : Nat) : Nat → Nat × Int32
  | 0 => (0, -9)
  | c + 1 => if sp_ots w σ nd ns nh N c then ((sp_ot w σ nd ns nh N c).1 + 1, if (sp_ot w σ nd ns nh N c).1 = 0 then nI c else (sp_ot w σ nd ns nh N c).2) else sp_ot w σ nd ns nh N c
section OPS11
variable {hC hM : gw_H} {σ τ w : Nat → Int32} {nd ns nh hr ns' N : Nat}
theorem sp_ot_t {c : Nat} (h : sp_ots w σ nd ns nh N c = true) : sp_ot w σ nd ns nh N (c + 1) = ((sp_ot w σ nd ns nh N c).1 + 1, if (sp_ot w σ nd ns nh N c).1 = 0 then nI c else (sp_ot w σ nd ns nh N c).2) := by rw [sp_ot, if_pos h]
theorem sp_ot_f {c : Nat} (h : sp_ots w σ nd ns nh N c = false) : sp_ot w σ nd ns nh N (c + 1) = sp_ot w σ nd ns nh N c := by rw [sp_ot, h]; rfl
theorem sp_ot_inv : ∀ c, c < 2 ^ 20 → (sp_ot w σ nd ns nh N c).1 ≤ c ∧ ((sp_ot w σ nd ns nh N c).1 = 0 ↔ (sp_ot w σ nd ns nh N c).2 = -9) := by
  intro c
  induction c with
  | zero => exact fun _ => ⟨Nat.le_refl _, ⟨fun _ => rfl, fun _ => rfl⟩⟩
  | succ c ih =>
    intro hc
    obtain ⟨i1, i2⟩ := ih (by omega)
    cases g : sp_ots w σ nd ns nh N c with
    | false => rw [sp_ot_f g]; exact ⟨by omega, i2⟩
    | true =>
      rw [sp_ot_t g]
      refine ⟨by show (sp_ot w σ nd ns nh N c).1 + 1 ≤ c + 1; omega, ⟨fun q => by exact absurd q (by show ¬ (sp_ot w σ nd ns nh N c).1 + 1 = 0; omega), fun q => ?_⟩⟩
      exfalso
      replace q : (if (sp_ot w σ nd ns nh N c).1 = 0 then nI c else (sp_ot w σ nd ns nh N c).2) = -9 := q
      by_cases z : (sp_ot w σ nd ns nh N c).1 = 0
      · rw [if_pos z] at q; exact n9_ne (by omega) q
      · rw [if_neg z] at q; exact z (i2.mpr q)
theorem sp_ot_skip {j : Nat} : ∀ d, ns + d ≤ 9 → sp_ot w σ nd ns nh N (10 * j + (ns + d)) = sp_ot w σ nd ns nh N (10 * j + ns) := by
  intro d
  induction d with
  | zero => exact fun _ => rfl
  | succ d ih =>
    intro hd
    rw [← ih (by omega)]
    refine sp_ot_f (c := 10 * j + (ns + d)) ?_
    unfold sp_ots
    rw [decide_eq_false (p := (10 * j + (ns + d)) % 10 = 9) (by omega), decide_eq_false (p := (10 * j + (ns + d)) % 10 < ns) (by omega)]
    rfl
theorem c_ltt (hW : sp_WF σ nd ns nh hr) (hh : hr ≤ 999) (hN : N ≤ 60) {h : gw_H} (hR : rc_C 1 h σ nd ns nh) (ht : h 0 6 = nI nh) {p1 p2 p3 : Int32} (j : Nat) (e : p1 = nI j) (hj : j < nh) (hs : p2 = -9 ∨ ∃ i, i < ns ∧ p2 = nI i) (e3 : p3 = nI N) {Q : Int32 → gw_H → Prop}
    (hq : ∀ h', rc_F 24 h h' → Q (if sp_ul (h 72) (sp_hn nd nh N (sp_gt σ j p2)) nh = -9 then 1 else 0) h') : wp_X5_leadsToTold h p1 p2 p3 Q := by
  have h5 := hW.1.2.1
  unfold wp_X5_leadsToTold
  have tail : ∀ h2 : gw_H, rc_C 24 h2 (sp_gt σ j p2) nd ns nh → rc_F 24 h h2 → wp_X2_passHours h2 24 p3 (fun _ h_3 => (wp_X5_unlikeTold h_3 24 (h_3 0 6) (fun r_5 h_4 => ((¬ r_5 = -9 → Q 0 h_4) ∧ (r_5 = -9 → Q 1 h_4))))) := by
    intro h2 a1 a2
    refine c_phs' (hW.gt j hs) hN (by omega) e3 a1 (fun h3 b1 b2 => ?_)
    have F := a2.trans b2
    refine c_ul ((hW.gt j hs).hn N (by omega)) b1 (m := nh) (Nat.le_refl _) ((rf24 F 0 (by omega)).symm ▸ ht : h3 0 6 = nI nh) ?_
    rw [rf24 F 72 (by omega)]
    have := hq h3 F
    refine ⟨fun c => ?_, fun c => ?_⟩
    · rw [if_neg c] at this; exact this
    · rw [if_pos c] at this; exact this
  refine c_ta hW hR (by omega) (fun h1 a1 a2 a3 a4 => c_gv hW a1 j e hj (fun c h2 b1 b2 => tail h2 ?_ (a4.trans b2)) (fun i hi ei h2 b1 b2 => tail h2 ?_ (a4.trans b2)))
  · rcases hs with z | ⟨i, hi, z⟩
    · rw [z]; exact b1
    · exact c_nr z hi (by omega) c
  · rw [ei]; exact b1
theorem c_oti (hW : sp_WF σ nd ns nh hr) (hh : hr ≤ 999) (hN : N ≤ 60) {p1 p2 : Int32} (e1 : p1 = nI N) {h0 : gw_H} (hw : h0 72 = w) (ht : h0 0 6 = nI nh) {Q : Int32 → gw_H → Prop} {K : Int32 → Int32 → Int32 → gw_H → Prop} {a : Nat} (ha : a < nh)
    (hq : ∀ h', rc_F 24 h0 h' → rc_C 1 h' σ nd ns nh → K (nI (sp_ot w σ nd ns nh N (10 * (a + 1))).1) (sp_ot w σ nd ns nh N (10 * (a + 1))).2 (nI (a + 1)) h') :
    ∀ (n k : Nat) (h : gw_H), k ≤ ns + 1 → ns + 1 ≤ k + n → rc_C 1 h σ nd ns nh → rc_F 24 h0 h → ∀ c, (k ≤ ns → c = 10 * a + k) → (k = ns + 1 → c = 10 * (a + 1)) → wl_X5_otherwise_84 p1 p2 K Q (n + 1) (nI (sp_ot w σ nd ns nh N c).1) (sp_ot w σ nd ns nh N c).2 (nI a) (nI k) h := by
  have h5 := hW.1.2.1
  have h6 := hW.1.2.2.1
  intro n
  induction n with
  | zero =>
    intro k h hk hn hR hF c hc1 hc2
    have : k = ns + 1 := by omega
    have c2 := hc2 this
    subst this c2
    unfold wl_X5_otherwise_84
    refine br_t (by rw [(rr_e5 hW hR).2.1]; exact nI_lt (by omega) (by omega)) ?_
    rw [nI_1]
    exact hq h hF hR
  | succ n ih =>
    intro k h hk hn hR hF c hc1 hc2
    unfold wl_X5_otherwise_84
    refine pk_lt ns k (fun g => ?_) (fun g => ?_) (rr_e5 hW hR).2.1 rfl (by omega) (by omega)
    · have : k = ns + 1 := by omega
      have c2 := hc2 this
      subst this c2
      rw [nI_1]
      exact hq h hF hR
    · have c1 := hc1 g
      subst c1
      -- the code of this way
      have step : ∀ cc s, cc < 100 → s = sp_osg cc → cc / 10 = a → (cc % 10 = 9 ∨ cc % 10 < ns) → sp_ot w σ nd ns nh N (10 * a + k) = sp_ot w σ nd ns nh N cc → (k + 1 ≤ ns → cc + 1 = 10 * a + (k + 1)) → (k + 1 = ns + 1 → cc + 1 = 10 * (a + 1)) →
          wk_X5_otherwise_121 p1 p2 K (wl_X5_otherwise_84 p1 p2 K Q (n + 1)) Q (nI (sp_ot w σ nd ns nh N (10 * a + k)).1) (sp_ot w σ nd ns nh N (10 * a + k)).2 (nI a) (nI k) s h := by
        intro cc s hcc hs hca hcd hce hn1 hn2
        have hs' : s = -9 ∨ ∃ i, i < ns ∧ s = nI i := by
          rw [hs]; unfold sp_osg
          by_cases z : cc % 10 = 9
          · rw [if_pos z]; exact Or.inl rfl
          · rw [if_neg z]; exact Or.inr ⟨cc % 10, by omega, rfl⟩
        have d1 : (decide (cc % 10 = 9) || decide (cc % 10 < ns)) = true := by
          rcases hcd with z | z
          · rw [decide_eq_true z]; rfl
          · rw [decide_eq_true z, Bool.or_true]
        have nx := fun h' hR' hF' => ih (k + 1) h' (by omega) (by omega) hR' hF' (cc + 1) hn1 hn2
        have same : ∀ h', rc_C 1 h' σ nd ns nh → rc_F 24 h0 h' → sp_ots w σ nd ns nh N cc = false → wk_X5_otherwise_178 p1 p2 K (wl_X5_otherwise_84 p1 p2 K Q (n + 1)) Q (nI (sp_ot w σ nd ns nh N (10 * a + k)).1) (sp_ot w σ nd ns nh N (10 * a + k)).2 (nI a) (nI k) h' := by
          intro h' hR' hF' hz
          unfold wk_X5_otherwise_178
          rw [nI_1, hce, ← sp_ot_f hz]
          exact nx h' hR' hF'
        unfold wk_X5_otherwise_121
        refine c_at a rfl (by omega) (by omega) ?_
        rw [show h 14 a = sp_hd σ a 3 from (hR.2.2.2 a ha).2.2.2.1]
        refine ⟨fun q => same h hR hF ?_, fun q => c_ltt hW hh hN hR ((rf24 hF 0 (by omega)).symm ▸ ht : h 0 6 = nI nh) a rfl ha hs' e1 (fun h' F => ?_)⟩
        · unfold sp_ots
          rw [hca, ← hs, decide_eq_false (p := ¬ s = sp_hd σ a 3) (fun z => z q)]
          simp
        · rw [rf24 hF 72 (by omega), hw]
          have R' := rc_1_24 hR F
          have F' := hF.trans F
          by_cases z : sp_ul w (sp_hn nd nh N (sp_gt σ a s)) nh = -9
          · rw [if_pos z]
            have hz : sp_ots w σ nd ns nh N cc = true := by
              unfold sp_ots
              rw [d1, hca, ← hs, decide_eq_true q, decide_eq_true z]; rfl
            obtain ⟨v1, v2⟩ := sp_ot_inv (w := w) (σ := σ) (nd := nd) (ns := ns) (nh := nh) (N := N) cc (by omega)
            have nx' := nx h' R' F'
            rw [sp_ot_t hz] at nx'
            replace nx' : wl_X5_otherwise_84 p1 p2 K Q (n + 1) (nI ((sp_ot w σ nd ns nh N cc).1 + 1)) (if (sp_ot w σ nd ns nh N cc).1 = 0 then nI cc else (sp_ot w σ nd ns nh N cc).2) (nI a) (nI (k + 1)) h' := nx'
            rw [hce]
            refine br_f rr_dec1 ⟨fun y => ?_, fun y => ?_⟩
            · unfold wk_X5_otherwise_178
              rw [nI_1, nI_1]
              rw [if_neg (fun x => y (v2.mp x))] at nx'
              exact nx'
            · unfold wp_X5_inRow
              rw [if_pos (v2.mpr y)] at nx'
              have el : ∀ x, x = nI (cc % 10) → 10 * nI a + x = nI cc := by
                intro x hx
                rw [hx, show (10 : Int32) = nI 10 from rfl, pk_mul, nI_add, show 10 * a + cc % 10 = cc by omega]
              refine ⟨fun x => ?_, fun x => ?_⟩
              · unfold wk_X5_otherwise_178
                dsimp only
                rw [nI_1, nI_1, el s (by rw [hs]; unfold sp_osg; exact if_neg (fun z => x (by rw [hs]; unfold sp_osg; exact if_pos z)))]
                exact nx'
              · have c9 : cc % 10 = 9 := Classical.byContradiction (fun z => by
                  rw [hs] at x; unfold sp_osg at x; rw [if_neg z] at x
                  exact n9_ne (by omega) x)
                unfold wk_X5_otherwise_178
                dsimp only
                rw [nI_1, nI_1, el 9 (by rw [c9]; rfl)]
                exact nx'
          · rw [if_neg z]
            refine br_t rfl (same h' R' F' ?_)
            unfold sp_ots
            rw [hca, ← hs, decide_eq_false z]
            simp
      refine pk_le ns k (fun g2 => ?_) (fun g2 => ?_) (rr_e5 hW hR).2.1 rfl (by omega) (by omega)
      · have : k = ns := by omega
        subst this
        refine step (10 * a + 9) (-9) (by omega) ?_ (by omega) (Or.inl (by omega)) ?_ (by omega) (by omega)
        · unfold sp_osg; rw [if_pos (by omega)]
        · have := sp_ot_skip (w := w) (σ := σ) (nd := nd) (ns := k) (nh := nh) (N := N) (j := a) (9 - k) (by omega)
          rw [show k + (9 - k) = 9 by omega] at this
          exact this.symm
      · refine step (10 * a + k) (nI k) (by omega) ?_ (by omega) (Or.inr (by omega)) rfl (by omega) (by omega)
        unfold sp_osg; rw [if_neg (by omega), show (10 * a + k) % 10 = k by omega]
theorem c_oto (hW : sp_WF σ nd ns nh hr) (hh : hr ≤ 999) (hN : N ≤ 60) {p1 p2 : Int32} (e1 : p1 = nI N) {h0 : gw_H} (hw : h0 72 = w) (ht : h0 0 6 = nI nh) {Q : Int32 → gw_H → Prop}
    (hq : ∀ h', rc_F 24 h0 h' → Q (if p2 = 0 then nI (sp_ot w σ nd ns nh N (10 * nh)).1 else (sp_ot w σ nd ns nh N (10 * nh)).2) h') :
    ∀ (n k : Nat) (h : gw_H), k ≤ nh → nh ≤ k + n → rc_C 1 h σ nd ns nh → rc_F 24 h0 h → wl_X5_otherwise_66 p1 p2 Q (n + 1) (nI (sp_ot w σ nd ns nh N (10 * k)).1) (sp_ot w σ nd ns nh N (10 * k)).2 (nI k) h := by
  have h6 := hW.1.2.2.1
  have fin : ∀ h, rc_F 24 h0 h → ((¬ p2 = 0 → Q (sp_ot w σ nd ns nh N (10 * nh)).2 h) ∧ (p2 = 0 → Q (nI (sp_ot w σ nd ns nh N (10 * nh)).1) h)) := by
    intro h hF
    have := hq h hF
    refine ⟨fun c => ?_, fun c => ?_⟩
    · rw [if_neg c] at this; exact this
    · rw [if_pos c] at this; exact this
  intro n
  induction n with
  | zero =>
    intro k h hk hn hR hF
    have : k = nh := by omega
    subst this
    unfold wl_X5_otherwise_66
    exact br_t (by rw [(rr_e5 hW hR).2.2.1]; exact nI_le (Nat.le_refl _) (by omega)) (fin h hF)
  | succ n ih =>
    intro k h hk hn hR hF
    unfold wl_X5_otherwise_66
    refine pk_le nh k (fun g => ?_) (fun g => ?_) (rr_e5 hW hR).2.2.1 rfl (by omega) (by omega)
    · have : k = nh := by omega
      subst this
      exact fin h hF
    · exact ⟨ns + 1 + 1, c_oti hW hh hN e1 hw ht g (fun h' b1 b2 => ih (k + 1) h' (by omega) (by omega) b2 b1) (ns + 1) 0 h (by omega) (by omega) hR hF (10 * k) (fun _ => rfl) (fun z => by omega)⟩
theorem m_otl (hW : sp_WF σ nd ns nh hr) (hh : hr ≤ 999) (hN : N ≤ 60) {p1 p2 : Int32} (e1 : p1 = nI N) {h0 : gw_H} (hw : ∀ i, i < nh → h0 13 i = w i) {Q : Int32 → gw_H → Prop}
    (hq : ∀ h', rm_M h' σ → rq_F h0 h' → Q (if p2 = 0 then nI (sp_ot w σ nd ns nh N (10 * nh)).1 else (sp_ot w σ nd ns nh N (10 * nh)).2) h') :
    ∀ (n k : Nat) (h : gw_H), k ≤ 10 * nh → 10 * nh ≤ k + n → rm_M h σ → rm_5 h σ → rq_F h0 h → wl_X6_otherwise_69 p1 p2 Q (n + 1) (nI (sp_ot w σ nd ns nh N k).1) (sp_ot w σ nd ns nh N k).2 (nI k) h := by
  have h5 := hW.1.2.1
  have h6 := hW.1.2.2.1
  have fin : ∀ h, rm_M h σ → rq_F h0 h → ((¬ p2 = 0 → Q (sp_ot w σ nd ns nh N (10 * nh)).2 h) ∧ (p2 = 0 → Q (nI (sp_ot w σ nd ns nh N (10 * nh)).1) h)) := by
    intro h hM1 hF
    have := hq h hM1 hF
    refine ⟨fun c => ?_, fun c => ?_⟩
    · rw [if_neg c] at this; exact this
    · rw [if_pos c] at this; exact this
  have e3 : ∀ h, rm_M h σ → 10 * h 2 3 = nI (10 * nh) := fun h hM1 => by
    rw [(hM1 3 (by omega)).trans hW.2.1.2.2.1, show (10 : Int32) = nI 10 from rfl, pk_mul]
  intro n
  induction n with
  | zero =>
    intro k h hk hn hM1 h5' hF
    have : k = 10 * nh := by omega
    subst this
    unfold wl_X6_otherwise_69
    exact br_t (by rw [e3 h hM1]; exact nI_le (Nat.le_refl _) (by omega)) (fin h hM1 hF)
  | succ n ih =>
    intro k h hk hn hM1 h5' hF
    unfold wl_X6_otherwise_69
    refine pk_le (10 * nh) k (fun g => ?_) (fun g => ?_) (e3 h hM1) rfl (by omega) (by omega)
    · have : k = 10 * nh := by omega
      subst this
      exact fin h hM1 hF
    · have f10 : nI k / 10 = nI (k / 10) := pk_div (d := 10) (by omega) (by omega) (by omega)
      have f11 : nI k - nI (k / 10) * 10 = nI (k % 10) := by rw [← f10]; exact pk_rem (d := 10) (by omega) (by omega) (by omega)
      rw [f10, f11]
      have hj : k / 10 < nh := by omega
      have nx := fun h' a b c => ih (k + 1) h' (by omega) (by omega) a b c
      have same : ∀ h', rm_M h' σ → rm_5 h' σ → rq_F h0 h' → sp_ots w σ nd ns nh N k = false → wk_X6_otherwise_195 p1 p2 (wl_X6_otherwise_69 p1 p2 Q (n + 1)) Q (nI (sp_ot w σ nd ns nh N k).1) (sp_ot w σ nd ns nh N k).2 (nI k) h' := by
        intro h' a b c hz
        unfold wk_X6_otherwise_195
        have nx' := nx h' a b c
        rw [nI_1]
        rw [sp_ot_f hz] at nx'
        exact nx'
      have step : ∀ s, s = sp_osg k → wk_X6_otherwise_110 p1 p2 (wl_X6_otherwise_69 p1 p2 Q (n + 1)) Q (nI (sp_ot w σ nd ns nh N k).1) (sp_ot w σ nd ns nh N k).2 (nI k) (nI (k / 10)) s h := by
        intro s hs
        unfold wk_X6_otherwise_110
        rw [(hM1 2 (by omega)).trans hW.2.1.2.1]
        refine ⟨fun c => same h hM1 h5' hF ?_, fun c => ?_⟩
        · unfold sp_ots
          have z1 : ¬ k % 10 = 9 := fun z => by
            rw [hs] at c; unfold sp_osg at c; rw [if_pos z] at c
            exact sp_n9le (n := ns) (by omega) c
          have z2 : ¬ k % 10 < ns := fun z => by
            rw [hs] at c; unfold sp_osg at c; rw [if_neg z1] at c
            exact nI_ge z (by omega) c
          rw [decide_eq_false z1, decide_eq_false z2]
          rfl
        · have hcd : k % 10 = 9 ∨ k % 10 < ns := by
            by_cases z : k % 10 = 9
            · exact Or.inl z
            · refine Or.inr (Classical.byContradiction (fun y => c ?_))
              rw [hs]; unfold sp_osg; rw [if_neg z]
              exact nI_le (by omega) (by omega)
          have hs' : s = -9 ∨ ∃ i, i < ns ∧ s = nI i := by
            rw [hs]; unfold sp_osg
            by_cases z : k % 10 = 9
            · rw [if_pos z]; exact Or.inl rfl
            · rw [if_neg z]; exact Or.inr ⟨k % 10, by omega, rfl⟩
          have d1 : (decide (k % 10 = 9) || decide (k % 10 < ns)) = true := by
            rcases hcd with z | z
            · rw [decide_eq_true z]; rfl
            · rw [decide_eq_true z, Bool.or_true]
          refine m_at hM1 (k / 10) 3 rfl rfl (by omega) (by omega) ⟨fun q => ?_, fun q => same h hM1 h5' hF ?_⟩
          · refine m_gt hW hM1 (k / 10) rfl (by omega) (hs'.imp id (fun x => Or.inr x)) (fun h1 a1 a2 => m_phs' (hW.gt _ hs') hN (by omega) e1 a1 (fun h2 b1 b2 => m_atl ((hW.gt _ hs').hn N (by omega)) b1 ?_))
            have h5'' : rm_5 h2 σ := (h5'.congr (a2 5 (by omega))).F b2
            refine m_end h5'' (fun h3 d1' d2' d3' => ?_)
            have F' : rq_F h0 h3 := hF.trans ((rf2 a2).trans (b2.q.trans (rf2 d3')))
            have Fw : rq_F h0 h2 := hF.trans ((rf2 a2).trans b2.q)
            have ew : sp_ul (h2 13) (sp_hn nd nh N (sp_gt σ (k / 10) s)) nh = sp_ul w (sp_hn nd nh N (sp_gt σ (k / 10) s)) nh :=
              sp_ul_congr (fun i hi => by rw [rfq Fw 13 (by omega)]; exact hw i hi)
            rw [ew]
            by_cases z : sp_ul w (sp_hn nd nh N (sp_gt σ (k / 10) s)) nh = -9
            · rw [if_pos z]
              have hz : sp_ots w σ nd ns nh N k = true := by
                unfold sp_ots
                rw [d1, ← hs, decide_eq_true q, decide_eq_true z]; rfl
              have nx' := nx h3 d1' d2' F'
              rw [sp_ot_t hz] at nx'
              replace nx' : wl_X6_otherwise_69 p1 p2 Q (n + 1) (nI ((sp_ot w σ nd ns nh N k).1 + 1)) (if (sp_ot w σ nd ns nh N k).1 = 0 then nI k else (sp_ot w σ nd ns nh N k).2) (nI (k + 1)) h3 := nx'
              obtain ⟨v1, v2⟩ := sp_ot_inv (w := w) (σ := σ) (nd := nd) (ns := ns) (nh := nh) (N := N) k (by omega)
              have tl : ∀ f, f = (if (sp_ot w σ nd ns nh N k).1 = 0 then nI k else (sp_ot w σ nd ns nh N k).2) → wk_X6_otherwise_178 p1 p2 (wl_X6_otherwise_69 p1 p2 Q (n + 1)) Q (nI (sp_ot w σ nd ns nh N k).1) (nI k) 1 f h3 := by
                intro f hf
                unfold wk_X6_otherwise_178
                refine br_f rr_dec1 ?_
                unfold wk_X6_otherwise_192 wk_X6_otherwise_195
                rw [nI_1, nI_1, hf]
                exact nx'
              refine br_f rr_dec1 (pk_ne _ 0 (fun y => ?_) (fun y => tl _ (by rw [if_pos y])) rfl rfl (by omega) (by omega))
              unfold wk_X6_otherwise_176
              exact tl _ (by rw [if_neg y])
            · rw [if_neg z]
              refine br_t rfl ?_
              unfold wk_X6_otherwise_176 wk_X6_otherwise_178
              refine br_t rfl ?_
              unfold wk_X6_otherwise_192
              rw [show nI (sp_ot w σ nd ns nh N k).1 + 0 = nI (sp_ot w σ nd ns nh N k).1 from nI_add _ 0]
              refine same h3 d1' d2' F' ?_
              unfold sp_ots
              rw [← hs, decide_eq_false z]
              simp
          · unfold sp_ots
            rw [← hs, decide_eq_false (p := ¬ s = sp_hd σ (k / 10) 3) (fun z => z q)]
            simp
      refine pk_ne (k % 10) 9 (fun z => step _ ?_) (fun z => step _ ?_) rfl rfl (by omega) (by omega)
      · unfold sp_osg; rw [if_neg z]
      · unfold sp_osg; rw [if_pos z]
theorem o_otherwise (R : RR hC hM) {p1 p2 : Int32} : wp_X5_otherwise hC p1 p2 (fun r hC' => wp_X6_otherwise hM p1 p2 (rr_A r hC')) := by
  obtain ⟨σ, nd, ns, nh, hr, S⟩ := R
  have S : RS hC hM σ nd ns nh hr := S
  obtain ⟨hW, hh, hR, hM1, hX⟩ := id S
  obtain ⟨hK, ⟨r, r1, r2, r3, r4⟩, hL, hF⟩ := id hX
  have h6 := hW.1.2.2.1
  obtain ⟨e1, e5, e9, -⟩ := rr_e5 hW hR
  have m3 : hM 2 3 = nI nh := (hM1 3 (by omega)).trans hW.2.1.2.2.1
  have cr : ∀ {p : Int32}, ¬ p = 0 → ∀ {Q : Int32 → gw_H → Prop}, wp_X5_refuse hC p Q → wk_X5_otherwise_46 p1 p2 Q p hC := by
    intro p hp Q q
    unfold wk_X5_otherwise_46; exact br_f hp q
  have cr2 : ∀ {p : Int32}, ¬ p = 0 → ∀ {Q : Int32 → gw_H → Prop}, wp_X5_refuse hC p Q → wk_X5_otherwise_22 p1 p2 Q p hC := by
    intro p hp Q q
    unfold wk_X5_otherwise_22; exact bn_f hp (cr hp q)
  have mr : ∀ {p : Int32}, ¬ p = 0 → ∀ {Q : Int32 → gw_H → Prop}, wp_X6_refuse hM p Q → wk_X6_otherwise_45 p1 p2 Q p hM := by
    intro p hp Q q
    unfold wk_X6_otherwise_45; exact br_f hp q
  have mr44 : ∀ {p : Int32}, ¬ p = 0 → ∀ {Q : Int32 → gw_H → Prop}, wp_X6_refuse hM p Q → wk_X6_otherwise_44 p1 p2 Q p hM := by
    intro p hp Q q
    unfold wk_X6_otherwise_44; exact mr hp q
  unfold wp_X5_otherwise
  refine c_out ⟨fun c => (cr2 c (S.rf (sp_outk c) (fun Q q => ?_))), fun c => ?_⟩
  · unfold wp_X6_otherwise
    exact m_wi (bn_f c (mr c q))
  · refine c_nei (fun q => br_t rfl ?_) (fun q1 q2 => br_f rr_dec1 (cr2 rz2 (S.rf rk2 (fun Q q => ?_))))
    · have md : ∀ {Q : Int32 → gw_H → Prop}, ((r = nh → (wk_X6_otherwise_44 p1 p2 Q 0 hM)) ∧ (¬ r = nh → (wk_X6_otherwise_44 p1 p2 Q (-3) hM))) → wp_X6_otherwise hM p1 p2 Q := by
        intro Q g
        unfold wp_X6_otherwise
        refine m_wi (bn_t c (m_p2 (fun z1 z2 => ?_) (fun _ _ _ => bn_f rr_dec1 (pk_eq r nh g.1 g.2 r3 m3 (by omega) (by omega)))))
        rcases q with q | q
        · exact absurd q z1
        · exact absurd q z2
      unfold wk_X5_otherwise_22
      refine bn_t c (pk_eq r nh (fun g => ?_) (fun g => cr rz3 (S.rf rk3 (fun Q q => md (br_f g (mr44 rz3 q))))) r2 e9 (by omega) (by omega))
      subst g
      rw [c]
      obtain ⟨N, -, hN, rfl⟩ := sp_outn (lo := 0) (hi := 60) rfl rfl (by omega) (by omega) c
      unfold wk_X5_otherwise_46
      refine br_t rfl ⟨r + 1, c_oto hW hh hN rfl (w := hC 72) rfl r2 (fun h' a1 => md (br_t rfl ?_)) r 0 hC (by omega) (by omega) hR rc_F.refl⟩
      unfold wk_X6_otherwise_44 wk_X6_otherwise_45
      refine br_t rfl (m_beg hM1 (fun h1 b1 b2 b3 => ⟨10 * r + 1, m_otl hW hh hN rfl (fun i hi => ?_) (fun h3 f1 f2 => ⟨rfl, S.q a1 f1 ((rf5 b3).trans f2)⟩) (10 * r) 0 h1 (by omega) (by omega) b1 b2 rq_F.refl⟩))
      obtain ⟨v, -, y1, y2⟩ := r4 i hi
      rw [b3 13 (by omega), y1, y2]
    · unfold wp_X6_otherwise
      refine m_wi (bn_t c (m_p2 (fun _ _ => bn_t rfl (mr44 rz2 q)) (fun k hk ek => ?_)))
      have : k = 0 ∨ k = 1 := by omega
      rcases this with rfl | rfl
      · exact absurd ek q1
      · exact absurd ek q2
end OPS11
