/-! what the reference's calls share -/
/-- a question in mind changes these cells alone -/
def rq_F (h h' : gw_H) : Prop := ∀ c, c ≠ 2 → c ≠ 5 → c ≠ 6 → c ≠ 7 → c ≠ 8 → c ≠ 9 → c ≠ 10 → h' c = h c
theorem rq_F.refl {h : gw_H} : rq_F h h := fun _ _ _ _ _ _ _ _ => rfl
theorem rq_F.trans {h h1 h2 : gw_H} (a : rq_F h h1) (c : rq_F h1 h2) : rq_F h h2 := fun q a1 a2 a3 a4 a5 a6 a7 => (c q a1 a2 a3 a4 a5 a6 a7).trans (a q a1 a2 a3 a4 a5 a6 a7)
theorem rm_F.q {h h1 : gw_H} (a : rm_F h h1) : rq_F h h1 := fun q a1 _ a3 a4 a5 a6 a7 => a q a1 a3 a4 a5 a6 a7
section MSHARE
variable {h : gw_H} {Q : Int32 → gw_H → Prop} {σ : Nat → Int32} {nd ns nh hr : Nat}
theorem m_wi {p lo hi : Int32} (hq : Q (sp_out p lo hi) h) : wp_X6_within h p lo hi Q := by
  unfold wp_X6_within
  unfold sp_out at hq
  refine br_c (fun c => ?_) (fun c => ?_)
  · rw [if_pos c] at hq
    exact ⟨fun d => by rw [if_pos d] at hq; exact hq, fun d => by rw [if_neg d] at hq; exact hq⟩
  · rw [if_neg c] at hq; exact hq
theorem m_in {p x : Int32} {n : Nat} (hx : x = nI n) (hn : n < 100) (f : (p < 0 ∨ nI n ≤ p) → Q 0 h) (g : ∀ j, j < n → p = nI j → Q 1 h) : wp_X6_isIn h p x Q := by
  unfold wp_X6_isIn
  exact c_rg hx hn f g
theorem m_ih (hW : sp_WF σ nd ns nh hr) (hM : rm_M h σ) {p : Int32} (f : (p < 0 ∨ nI nh ≤ p) → Q 0 h) (g : ∀ j, j < nh → p = nI j → Q 1 h) : wp_X6_isHead h p Q := by
  have h6 := hW.1.2.2.1
  unfold wp_X6_isHead
  exact m_in ((hM 3 (by omega)).trans hW.2.1.2.2.1) (by omega) (fun c => ⟨rfl, f c⟩) (fun j hj e => ⟨rfl, g j hj e⟩)
theorem m_is (hW : sp_WF σ nd ns nh hr) (hM : rm_M h σ) {p : Int32} (f : (p < 0 ∨ nI ns ≤ p) → Q 0 h) (g : ∀ j, j < ns → p = nI j → Q 1 h) : wp_X6_isSong h p Q := by
  have h5 := hW.1.2.1
  unfold wp_X6_isSong
  exact m_in ((hM 2 (by omega)).trans hW.2.1.2.1) (by omega) (fun c => ⟨rfl, f c⟩) (fun j hj e => ⟨rfl, g j hj e⟩)
theorem m_ref {p : Int32} (k : Nat) (hp : -p = nI k) (hk : k < 7) (hq : Q p (gw_up h 1 k (h 1 k + 1))) : wp_X6_refuse h p Q := by
  unfold wp_X6_refuse
  rw [hp, nI_clamp (by omega)]
  exact ⟨vp_in_nI hk (by omega), vp_in_nI hk (by omega), hq⟩
theorem m_layl {a1 a2 : Nat} (hne : a1 ≠ a2) {h0 : gw_H} (hq : ∀ h', (∀ i, i < 73 → h' a2 i = h0 a1 i) → (∀ c, c ≠ a2 → h' c = h0 c) → Q 0 h') :
    ∀ (n k : Nat) (h : gw_H), k ≤ 73 → 73 ≤ k + n → (∀ i, i < k → h a2 i = h0 a1 i) → (∀ c, c ≠ a2 → h c = h0 c) → wl_X6_lays_2 a1 73 a2 73 Q (n + 1) (nI k) h := by
  intro n
  induction n with
  | zero =>
    intro k h hk hn h1 h2
    have : k = 73 := by omega
    subst this
    unfold wl_X6_lays_2
    exact br_t (by decide) (hq h h1 h2)
  | succ n ih =>
    intro k h hk hn h1 h2
    unfold wl_X6_lays_2
    refine pk_le 73 k (fun g => ?_) (fun g => ⟨vp_in_nI g (by omega), vp_in_nI g (by omega), ?_⟩) rfl rfl (by omega) (by omega)
    · have : k = 73 := by omega
      subst this
      exact hq h h1 h2
    · rw [nI_clamp (by omega), nI_1]
      refine ih (k + 1) _ (by omega) (by omega) (fun i hi => ?_) (fun c hc => by rw [gw_up_ne hc]; exact h2 c hc)
      by_cases e : i = k
      · subst e; rw [gw_up_ee, h2 a1 hne]
      · rw [gw_up_en e]; exact h1 i (by omega)
theorem m_lay {a1 a2 : Nat} (hne : a1 ≠ a2) (hq : ∀ h', (∀ i, i < 73 → h' a2 i = h a1 i) → (∀ c, c ≠ a2 → h' c = h c) → Q 0 h') : wp_X6_lays h a1 73 a2 73 Q := by
  unfold wp_X6_lays
  exact ⟨74, m_layl hne hq 73 0 h (by omega) (by omega) (fun i hi => by omega) (fun _ _ => rfl)⟩
/-- what is laid by for the time of a question -/
def rm_5 (h : gw_H) (σ : Nat → Int32) : Prop := ∀ i, i < 73 → h 5 i = σ i
theorem rm_5.congr {h' : gw_H} (hM : rm_5 h σ) (hc : h' 5 = h 5) : rm_5 h' σ := fun i hi => by rw [hc]; exact hM i hi
theorem m_beg (hM : rm_M h σ) (hq : ∀ h', rm_M h' σ → rm_5 h' σ → (∀ c, c ≠ 5 → h' c = h c) → Q 0 h') : wp_X6_begins h Q := by
  unfold wp_X6_begins
  exact m_lay (by omega) (fun h' a1 a2 => hq h' (hM.congr (a2 2 (by omega))) (fun i hi => by rw [a1 i hi]; exact hM i hi) a2)
theorem m_end (hM : rm_5 h σ) (hq : ∀ h', rm_M h' σ → rm_5 h' σ → (∀ c, c ≠ 2 → h' c = h c) → Q 0 h') : wp_X6_ends h Q := by
  unfold wp_X6_ends
  exact m_lay (by omega) (fun h' a1 a2 => hq h' (fun i hi => by rw [a1 i hi]; exact hM i hi) (hM.congr (a2 5 (by omega))) a2)
theorem rm_5.F {h' : gw_H} (hM : rm_5 h σ) (a : rm_F h h') : rm_5 h' σ := hM.congr (a 5 (by omega) (by omega) (by omega) (by omega) (by omega) (by omega))
theorem m_hvl (hW : sp_WF σ nd ns nh hr) (hM : rm_M h σ) {p : Int32} (hq : Q (sp_hv σ p nh) h) :
    ∀ (n k : Nat), k ≤ nh → nh ≤ k + n → wl_X6_haveIt_4 p Q (n + 1) (sp_hv σ p k) (nI k) h := by
  have h6 := hW.1.2.2.1
  have r3 : h 2 3 = nI nh := (hM 3 (by omega)).trans hW.2.1.2.2.1
  intro n
  induction n with
  | zero =>
    intro k hk hn
    have : k = nh := by omega
    subst this
    unfold wl_X6_haveIt_4
    exact br_t (by rw [r3]; exact nI_le (Nat.le_refl _) (by omega)) hq
  | succ n ih =>
    intro k hk hn
    unfold wl_X6_haveIt_4
    refine pk_le nh k (fun g => ?_) (fun g => ?_) r3 rfl (by omega) (by omega)
    · have : k = nh := by omega
      subst this
      exact hq
    · have nx : ∀ s, sp_hv σ p (k + 1) = sp_hv σ p k + s → wk_X6_haveIt_51 p (wl_X6_haveIt_4 p Q (n + 1)) Q (nI k) s (sp_hv σ p k) h := by
        intro s hs
        unfold wk_X6_haveIt_51
        rw [← hs, nI_1]
        exact ih (k + 1) (by omega) (by omega)
      refine br_c (fun c => ?_) (fun c => ?_)
      · have hp0 : ¬ p < 0 := Int32.not_lt.mpr c
        refine m_at hM k 3 rfl rfl (by omega) (by omega) ?_
        exact ⟨fun d => nx 0 (by rw [sp_hv, if_neg hp0, if_neg d]), fun d => nx 1 (by rw [sp_hv, if_neg hp0, if_pos d])⟩
      · have hp0 : p < 0 := Int32.not_le.mp c
        refine m_at hM k 3 rfl rfl (by omega) (by omega) ?_
        exact br_c (fun w => nx 0 (by rw [sp_hv, if_pos hp0, if_neg (Int32.not_le.mpr w)])) (fun w => nx 1 (by rw [sp_hv, if_pos hp0, if_pos (Int32.not_lt.mp w)]))
theorem m_hv (hW : sp_WF σ nd ns nh hr) (hM : rm_M h σ) {p : Int32} (hq : Q (sp_hv σ p nh) h) : wp_X6_haveIt h p Q := by
  unfold wp_X6_haveIt
  exact ⟨nh + 1, m_hvl hW hM hq nh 0 (Nat.zero_le _) (by omega)⟩
/-- how many have it behind so many hours by the row τ, and what is laid by comes back -/
theorem m_hb {τ : Nat → Int32} {nd' ns' nh' hr' : Nat} (hW : sp_WF τ nd' ns' nh' hr') (hh : hr' + 60 < 100000) (hM : rm_M h τ) (h5 : rm_5 h σ) {N : Nat} (hN : N ≤ 60) {p t : Int32} (ht : t = nI N)
    (hq : ∀ h', rm_M h' σ → rm_5 h' σ → rq_F h h' → Q (sp_hv (sp_hn nd' nh' N τ) p nh') h') : wp_X6_haveBehind h p t Q := by
  unfold wp_X6_haveBehind
  refine m_phs' hW hN hh ht hM (fun h1 a1 a2 => m_hv (hW.hn N (by omega)) a1 (m_end (h5.F a2) (fun h2 b1 b2 b3 => hq h2 b1 b2 ?_)))
  exact a2.q.trans (fun c c1 _ _ _ _ _ _ => b3 c c1)
theorem m_wr {p1 p2 : Int32} (f : p1 = 0 → Q (-1) h) (g : ¬ p1 = 0 → Q (sp_out p2 0 60) h) : wp_X6_wrong h p1 p2 Q := by
  unfold wp_X6_wrong
  exact br_c (fun c => f c) (fun c => m_wi (g c))
theorem m_tr (hW : sp_WF σ nd ns nh hr) (hM : rm_M h σ) {p w : Int32} (j : Nat) (hp : p = nI j) (hj : j < nh) (hw : w = 0 ∨ w = 1 ∨ w = 2 ∨ w = 3)
    (hq : ∀ h', rm_M h' (sp_tr σ j w) → (∀ c, c ≠ 2 → h' c = h c) → Q 0 h') : wp_X6_mends h p w Q := by
  have h6 := hW.1.2.2.1
  have fin : ∀ v, (∀ h', rm_M h' (sp_sv σ j v) → (∀ c, c ≠ 2 → h' c = h c) → Q 0 h') → wk_X6_mends_42 p w Q v h := by
    intro v hv
    unfold wk_X6_mends_42
    refine br_c (fun c => m_pu j 4 hp rfl (by omega) (by omega) (hv _ ?_ (fun k hk => gw_up_ne hk))) (fun c => m_gt hW hM j hp (by omega) (Or.inl rfl) (fun h' a1 a2 => hv h' ?_ a2))
    · unfold sp_sv; rw [if_neg (Int32.not_le.mpr c)]; exact hM.up _ _
    · unfold sp_sv; rw [if_pos (Int32.not_lt.mp c)]; exact a1
  unfold sp_tr at hq
  unfold wp_X6_mends
  refine ⟨fun c3 => ⟨fun c2 => ⟨fun c0 => ?_, fun c0 => ?_⟩, fun c2 => ?_⟩, fun c3 => ?_⟩
  · rw [if_neg c3, if_neg c2, if_neg c0] at hq
    exact m_at hM j 4 hp rfl (by omega) (by omega) (fin _ hq)
  · rw [if_neg c3, if_neg c2, if_pos c0] at hq
    exact m_at hM j 4 hp rfl (by omega) (by omega) (fin _ hq)
  · rw [if_neg c3, if_pos c2] at hq
    exact m_pu j 5 hp rfl (by omega) (by omega) (hq _ (hM.up _ _) (fun k hk => gw_up_ne hk))
  · rw [if_pos c3] at hq
    exact hq h hM (fun _ _ => rfl)
theorem m_stal {h0 : gw_H} (hq : ∀ h', (∀ i, i < 6 → h' 8 i = nI i ∧ h' 9 i = nI i) → (∀ c, c ≠ 8 → c ≠ 9 → h' c = h0 c) → Q 0 h') :
    ∀ (n k : Nat) (h : gw_H), k ≤ 6 → 6 ≤ k + n → (∀ i, i < k → h 8 i = nI i ∧ h 9 i = nI i) → (∀ c, c ≠ 8 → c ≠ 9 → h c = h0 c) → wl_X6_starts_6 Q (n + 1) (nI k) h := by
  intro n
  induction n with
  | zero =>
    intro k h hk hn h1 h2
    have : k = 6 := by omega
    subst this
    unfold wl_X6_starts_6
    exact br_t (by decide) (hq h h1 h2)
  | succ n ih =>
    intro k h hk hn h1 h2
    unfold wl_X6_starts_6
    refine pk_le 6 k (fun g => ?_) (fun g => ⟨vp_in_nI g (by omega), vp_in_nI g (by omega), ?_⟩) rfl rfl (by omega) (by omega)
    · have : k = 6 := by omega
      subst this
      exact hq h h1 h2
    · rw [nI_clamp (by omega), nI_1]
      refine ih (k + 1) _ (by omega) (by omega) (fun i hi => ?_) (fun c c1 c2 => by rw [gw_up_ne c2, gw_up_ne c1]; exact h2 c c1 c2)
      by_cases e : i = k
      · subst e
        rw [gw_up_ne (by omega), gw_up_ee, gw_up_ee]; exact ⟨rfl, rfl⟩
      · rw [gw_up_ne (by omega), gw_up_en e, gw_up_en e, gw_up_ne (by omega)]; exact h1 i (by omega)
theorem m_sta (hM : rm_M h σ) (h6 : nh ≤ 6) (hq : ∀ h', rm_M h' σ → rm_5 h' σ → rm_G h' nh (fun j => nI j) (fun j => nI j) → rq_F h h' → Q 0 h') : wp_X6_starts h Q := by
  unfold wp_X6_starts
  refine m_beg hM (fun h1 a1 a2 a3 => ⟨7, m_stal (fun h2 b1 b2 => hq h2 (a1.congr (b2 2 (by omega) (by omega))) (a2.congr (b2 5 (by omega) (by omega))) (fun j hj => b1 j (by omega)) (fun c c1 c2 c3 c4 c5 c6 c7 => ?_)) 6 0 h1 (by omega) (by omega) (fun i hi => by omega) (fun _ _ _ => rfl)⟩)
  rw [b2 c c5 c6, a3 c c2]
end MSHARE
