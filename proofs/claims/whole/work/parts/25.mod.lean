/-! an hour in the reference -/
def rm_G (h : gw_H) (nh : Nat) (G O : Nat → Int32) : Prop := ∀ j, j < nh → h 8 j = G j ∧ h 9 j = O j
def rm_F (h h' : gw_H) : Prop := ∀ c, c ≠ 2 → c ≠ 6 → c ≠ 7 → c ≠ 8 → c ≠ 9 → c ≠ 10 → h' c = h c
theorem rm_F.refl {h : gw_H} : rm_F h h := fun _ _ _ _ _ _ _ => rfl
theorem rm_F.trans {h h1 h2 : gw_H} (a : rm_F h h1) (c : rm_F h1 h2) : rm_F h h2 := fun q a1 a2 a3 a4 a5 a6 => (c q a1 a2 a3 a4 a5 a6).trans (a q a1 a2 a3 a4 a5 a6)
section MHOUR2
variable {Q : Int32 → gw_H → Prop} {σ : Nat → Int32} {nd ns nh hr : Nat} {h0 : gw_H} {G O : Nat → Int32}
theorem m_ho3 (hW : sp_WF σ nd ns nh hr)
    (hq : ∀ h', rm_M h' (sp_ho σ nd nh) → rm_G h' nh (sp_G σ nd nh G) (sp_O σ nd nh O) → rm_F h0 h' → Q (sp_ct σ nd nh nh) h') :
    ∀ (n k : Nat) (h : gw_H), k ≤ nh → nh ≤ k + n → rm_M h (sp_fo σ nd nh k) → rm_F h0 h →
      (∀ i, i < nh → h 6 i = sp_he σ nd nh i ∧ h 7 i = (sp_ls σ nd i nh).2 ∧ h 10 i = O i) →
      (∀ i, i < nh → (i < k → h 8 i = sp_G σ nd nh G i ∧ h 9 i = sp_O σ nd nh O i) ∧ (k ≤ i → h 8 i = G i ∧ h 9 i = O i)) →
      wl_X6_goes_78 Q (n + 1) (sp_ct σ nd nh k) (nI k) h := by
  have hW' := hW
  obtain ⟨⟨h8, h5, h6, -⟩, ⟨-, e2, e3, -⟩, -⟩ := hW
  have ex : ∀ h, rm_M h (sp_fo σ nd nh nh) → rm_F h0 h → (∀ i, i < nh → (i < nh → h 8 i = sp_G σ nd nh G i ∧ h 9 i = sp_O σ nd nh O i) ∧ (nh ≤ i → h 8 i = G i ∧ h 9 i = O i)) → Q (sp_ct σ nd nh nh) (gw_up h 2 4 (h 2 4 + 1)) := by
    intro h hM hF hI
    refine hq _ ?_ (fun j hj => ?_) (hF.trans (fun c a1 _ _ _ _ _ => gw_up_ne a1))
    · unfold sp_ho
      rw [hM 4 (by omega)]
      exact hM.up 4 _
    · rw [gw_up_ne (by omega), gw_up_ne (by omega)]
      exact (hI j hj).1 hj
  intro n
  induction n with
  | zero =>
    intro k h hk hn hM hF hA hI
    have : k = nh := by omega
    subst this
    unfold wl_X6_goes_78
    refine br_t ?_ (ex h hM hF hI)
    rw [hM 3 (by omega), sp_folo σ nd k (by omega), e3]
    exact nI_le (Nat.le_refl _) (by omega)
  | succ n ih =>
    intro k h hk hn hM hF hA hI
    unfold wl_X6_goes_78
    refine pk_le nh k (fun g => ?_) (fun g => ?_) ((hM 3 (by omega)).trans ((sp_folo σ nd nh (by omega) k).trans e3)) rfl (by omega) (by omega)
    · have : k = nh := by omega
      subst this
      exact ex h hM hF hI
    · have WF := hW'.fo k hk
      obtain ⟨x6, x7, x10⟩ := hA k g
      have ck : (nI k).toNatClampNeg = k := nI_clamp (by omega)
      have vk : vp_in (nI k) 6 := vp_in_nI (by omega) (by omega)
      refine ⟨vk, ?_⟩
      rw [ck, x6]
      have tail : ∀ (τ : Nat → Int32) (h1 : gw_H), sp_WF τ nd ns nh hr → rm_M h1 τ → rm_F h h1 → (∀ c, c = 6 ∨ c = 7 ∨ c = 10 → h1 c = h c) → sp_fo σ nd nh (k + 1) = sp_ch τ k →
          (∀ i, i < nh → (i < k + 1 → h1 8 i = sp_G σ nd nh G i ∧ h1 9 i = sp_O σ nd nh O i) ∧ (k + 1 ≤ i → h1 8 i = G i ∧ h1 9 i = O i)) →
          wk_X6_goes_148 (wl_X6_goes_78 Q (n + 1)) Q (sp_ct σ nd nh (k + 1)) (nI k) h1 := by
        intro τ h1 w1 c1 f1 k1 e1 i1
        have nx : ∀ h2, rm_M h2 (sp_ch τ k) → (∀ c, c ≠ 2 → h2 c = h1 c) → wk_X6_goes_171 (wl_X6_goes_78 Q (n + 1)) Q (sp_ct σ nd nh (k + 1)) (nI k) h2 := by
          intro h2 a1 a2
          unfold wk_X6_goes_171
          rw [nI_1]
          refine ih (k + 1) h2 (by omega) (by omega) (by rw [e1]; exact a1) (hF.trans (f1.trans (fun c b1 _ _ _ _ _ => a2 c b1))) (fun i hi => ?_) (fun i hi => ?_)
          · rw [a2 6 (by omega), a2 7 (by omega), a2 10 (by omega), k1 6 (by omega), k1 7 (by omega), k1 10 (by omega)]
            exact hA i hi
          · rw [a2 8 (by omega), a2 9 (by omega)]
            exact i1 i hi
        unfold wk_X6_goes_148
        refine m_at c1 k 5 rfl rfl (by omega) (by omega) ?_
        refine br_c (fun c => nx h1 ?_ (fun _ _ => rfl)) (fun c => m_at c1 k 5 rfl rfl (by omega) (by omega) (m_pu k 5 rfl rfl (by omega) (by omega) (nx _ ?_ (fun q hq => gw_up_ne hq))))
        · unfold sp_ch; rw [if_neg (Int32.not_lt.mpr c)]; exact c1
        · unfold sp_ch; rw [if_pos (Int32.not_le.mp c)]; exact c1.up _ _
      rcases sp_hew hW' k with e | ⟨i, g1, h1, h2, h3, h4, h5'⟩
      · rw [e]
        refine br_t n9_lt (m_wa WF hM k rfl g (fun h1 a1 a2 => ?_))
        have hct : sp_ct σ nd nh (k + 1) = sp_ct σ nd nh k := by rw [sp_ct, e, if_neg n9_neg]
        have hfo : sp_fo σ nd nh (k + 1) = sp_ch (sp_wa (sp_fo σ nd nh k) k) k := by rw [sp_fo, e, if_neg n9_neg]
        rw [← hct]
        refine tail _ h1 (WF.wa k) a1 (fun c b1 _ _ _ _ _ => a2 c b1) (fun c hc => a2 c (by omega)) hfo (fun i hi => ?_)
        rw [a2 8 (by omega), a2 9 (by omega)]
        obtain ⟨b1, b2⟩ := hI i hi
        refine ⟨fun q => ?_, fun q => b2 (by omega)⟩
        by_cases ei : i = k
        · subst ei
          obtain ⟨q1, q2⟩ := b2 (Nat.le_refl _)
          rw [q1, q2]
          unfold sp_G sp_O
          rw [e, if_neg n9_neg, if_neg n9_neg]
          exact ⟨rfl, rfl⟩
        · exact b1 (by omega)
      · rw [h4]
        refine br_f (nI_pos (by omega)) ⟨vk, m_gt WF hM k rfl (by omega) (Or.inr (Or.inr ⟨i, h1, rfl⟩)) (fun h2' a1 a2 => ⟨vk, vk, vk, ?_⟩)⟩
        have y7 : h2' 7 k = nI g1 := by rw [a2 7 (by omega), x7, h3]
        have z7 : gw_up h2' 8 k (h2' 7 k) 7 k = nI g1 := by rw [gw_up_ne (by omega), y7]
        rw [z7, nI_clamp (by omega)]
        refine ⟨vp_in_nI (by omega) (by omega), vk, ?_⟩
        have hct : sp_ct σ nd nh (k + 1) = sp_ct σ nd nh k + 1 := by rw [sp_ct, h4, if_pos (nI_pos' (by omega))]
        have hfo : sp_fo σ nd nh (k + 1) = sp_ch (sp_gt (sp_fo σ nd nh k) k (nI i)) k := by rw [sp_fo, h4, if_pos (nI_pos' (by omega))]
        rw [← hct]
        have x10' : ∀ i, h2' 10 i = h 10 i := fun i => by rw [a2 10 (by omega)]
        refine tail _ _ (WF.gt k (Or.inr ⟨i, h1, rfl⟩)) ((a1.congr (gw_up_ne (by omega))).congr (gw_up_ne (by omega))) (fun c b1 b2 b3 b4 b5 b6 => ?_) (fun c hc => ?_) hfo (fun i' hi => ?_)
        · rw [gw_up_ne b5, gw_up_ne b4, a2 c b1]
        · rw [gw_up_ne (by omega), gw_up_ne (by omega), a2 c (by omega)]
        · obtain ⟨b1, b2⟩ := hI i' hi
          by_cases ei : i' = k
          · subst ei
            refine ⟨fun _ => ⟨?_, ?_⟩, fun q => by omega⟩
            · rw [gw_up_ne (by omega), gw_up_ee, y7]
              unfold sp_G; rw [h4, if_pos (nI_pos' (by omega)), h3]
            · rw [gw_up_ee, gw_up_ne (by omega), x10', (hA g1 h2).2.2]
              unfold sp_O; rw [h4, if_pos (nI_pos' (by omega)), h3, nI_clamp (by omega)]
          · rw [gw_up_ne (by omega), gw_up_en ei, gw_up_en ei, gw_up_ne (by omega), a2 8 (by omega), a2 9 (by omega)]
            exact ⟨fun q => b1 (by omega), fun q => b2 (by omega)⟩
theorem m_ho2 (hW : sp_WF σ nd ns nh hr)
    (hq : ∀ h', rm_M h' (sp_ho σ nd nh) → rm_G h' nh (sp_G σ nd nh G) (sp_O σ nd nh O) → rm_F h0 h' → Q (sp_ct σ nd nh nh) h') :
    ∀ (n k : Nat) (h : gw_H), k ≤ nh → nh ≤ k + n → rm_M h σ → rm_F h0 h → rm_G h nh G O →
      (∀ i, i < k → h 6 i = sp_he σ nd nh i ∧ h 7 i = (sp_ls σ nd i nh).2 ∧ h 10 i = O i) → wl_X6_goes_42 Q (n + 1) (sp_hb σ nh) 0 (nI k) h := by
  have hW' := hW
  obtain ⟨⟨h8, h5, h6, -⟩, ⟨-, e2, e3, -⟩, -⟩ := hW
  intro n
  induction n with
  | zero =>
    intro k h hk hn hM hF hG hA
    have : k = nh := by omega
    subst this
    unfold wl_X6_goes_42
    exact br_t (by rw [hM 3 (by omega), e3]; exact nI_le (Nat.le_refl _) (by omega)) ⟨k + 1, m_ho3 hW' hq k 0 h (Nat.zero_le _) (by omega) hM hF hA (fun i hi => ⟨fun q => by omega, fun _ => hG i hi⟩)⟩
  | succ n ih =>
    intro k h hk hn hM hF hG hA
    unfold wl_X6_goes_42
    refine pk_le nh k (fun g => ?_) (fun g => ?_) ((hM 3 (by omega)).trans e3) rfl (by omega) (by omega)
    · have : k = nh := by omega
      subst this
      exact ⟨k + 1, m_ho3 hW' hq k 0 h (Nat.zero_le _) (by omega) hM hF hA (fun i hi => ⟨fun q => by omega, fun _ => hG i hi⟩)⟩
    · have vk : vp_in (nI k) 6 := vp_in_nI (by omega) (by omega)
      refine m_lis hW' hM rfl k rfl g (fun h1 a1 a2 a3 a4 => ⟨vk, vk, ?_⟩)
      rw [nI_clamp (by omega), nI_1]
      have g1 : rm_G h1 nh G O := fun j hj => by rw [a2.1 8 (by omega) (by omega), a2.1 9 (by omega) (by omega)]; exact hG j hj
      refine ih (k + 1) _ (by omega) (by omega) (a1.congr (gw_up_ne (by omega))) (hF.trans (fun c b1 b2 b3 b4 b5 b6 => by rw [gw_up_ne b6, a2.1 c b2 b3])) (fun j hj => by rw [gw_up_ne (by omega), gw_up_ne (by omega)]; exact g1 j hj) (fun i hi => ?_)
      by_cases e : i = k
      · subst e
        rw [gw_up_ne (by omega), gw_up_ne (by omega), gw_up_ee, a3, a4]
        exact ⟨rfl, rfl, (g1 i g).2⟩
      · rw [gw_up_ne (by omega), gw_up_ne (by omega), gw_up_en e, a2.2 6 i e, a2.2 7 i e, a2.2 10 i e]
        exact hA i (by omega)
theorem m_ho1 (hW : sp_WF σ nd ns nh hr) {h : gw_H} (hM : rm_M h σ) (hG : rm_G h nh G O)
    (hq : ∀ h', rm_M h' (sp_ho σ nd nh) → rm_G h' nh (sp_G σ nd nh G) (sp_O σ nd nh O) → rm_F h h' → Q (sp_ct σ nd nh nh) h') :
    ∀ (n k : Nat), k ≤ nh → nh ≤ k + n → wl_X6_goes_6 Q (n + 1) (sp_hb σ k) 0 (nI k) h := by
  have hW' := hW
  obtain ⟨⟨h8, h5, h6, -⟩, ⟨-, e2, e3, -⟩, -⟩ := hW
  intro n
  induction n with
  | zero =>
    intro k hk hn
    have : k = nh := by omega
    subst this
    unfold wl_X6_goes_6
    exact br_t (by rw [hM 3 (by omega), e3]; exact nI_le (Nat.le_refl _) (by omega)) ⟨k + 1, m_ho2 hW' hq k 0 h (Nat.zero_le _) (by omega) hM rm_F.refl hG (fun i hi => by omega)⟩
  | succ n ih =>
    intro k hk hn
    unfold wl_X6_goes_6
    refine pk_le nh k (fun g => ?_) (fun g => ?_) ((hM 3 (by omega)).trans e3) rfl (by omega) (by omega)
    · have : k = nh := by omega
      subst this
      exact ⟨k + 1, m_ho2 hW' hq k 0 h (Nat.zero_le _) (by omega) hM rm_F.refl hG (fun i hi => by omega)⟩
    · refine m_hu hM k rfl (by omega) ?_
      have nx : ∀ s, sp_hb σ (k + 1) = sp_hb σ k ||| s → wk_X6_goes_32 (wl_X6_goes_6 Q (n + 1)) Q 0 (nI k) s (sp_hb σ k) h := by
        intro s hs
        unfold wk_X6_goes_32
        rw [← hs, nI_1]
        exact ih (k + 1) (by omega) (by omega)
      cases hu : sp_hu σ k with
      | false => exact br_t rfl (nx _ (by rw [sp_hb, hu]; rfl))
      | true => exact br_f (by decide) (nx _ (by rw [sp_hb, hu]; rfl))
/-- AN HOUR -/
theorem m_hour (hW : sp_WF σ nd ns nh hr) {h : gw_H} (hM : rm_M h σ) (hG : rm_G h nh G O)
    (hq : ∀ h', rm_M h' (sp_ho σ nd nh) → rm_G h' nh (sp_G σ nd nh G) (sp_O σ nd nh O) → rm_F h h' → Q (sp_ct σ nd nh nh) h') : wp_X6_goes h Q := by
  unfold wp_X6_goes
  exact ⟨nh + 1, m_ho1 hW hM hG hq nh 0 (Nat.zero_le _) (by omega)⟩
theorem rm_G.self {h : gw_H} : rm_G h nh (h 8) (h 9) := fun _ _ => ⟨rfl, rfl⟩
theorem m_hour' (hW : sp_WF σ nd ns nh hr) {h : gw_H} (hM : rm_M h σ) (hq : ∀ h', rm_M h' (sp_ho σ nd nh) → rm_F h h' → Q (sp_ct σ nd nh nh) h') : wp_X6_goes h Q :=
  m_hour hW hM rm_G.self (fun h' a _ c => hq h' a c)
theorem m_hoursl (hW : sp_WF σ nd ns nh hr) {N : Nat} (hN : N ≤ 60) (hh : hr + 60 < 100000)
    (hq : ∀ h', rm_M h' (sp_hn nd nh N σ) → rm_G h' nh (sp_Gn nd nh N σ G) (sp_On nd nh N σ O) → rm_F h0 h' → Q 0 h') :
    ∀ (n k : Nat) (h : gw_H), k ≤ N → N ≤ k + n → rm_M h (sp_hn nd nh k σ) → rm_G h nh (sp_Gn nd nh k σ G) (sp_On nd nh k σ O) → rm_F h0 h → wl_X6_goesFor_2 (nI N) Q (n + 1) (nI k) h := by
  intro n
  induction n with
  | zero =>
    intro k h hk hn hM hG hF
    have : k = N := by omega
    subst this
    unfold wl_X6_goesFor_2
    exact br_t (nI_le (Nat.le_refl _) (by omega)) (hq h hM hG hF)
  | succ n ih =>
    intro k h hk hn hM hG hF
    unfold wl_X6_goesFor_2
    refine pk_le N k (fun g => ?_) (fun g => ?_) rfl rfl (by omega) (by omega)
    · have : k = N := by omega
      subst this
      exact hq h hM hG hF
    · refine m_hour (hW.hn k (by omega)) hM hG (fun h' a1 a2 a3 => ?_)
      rw [nI_1]
      exact ih (k + 1) h' (by omega) (by omega) a1 a2 (hF.trans a3)
theorem m_phs (hW : sp_WF σ nd ns nh hr) {N : Nat} (hN : N ≤ 60) (hh : hr + 60 < 100000) {h : gw_H} {p : Int32} (hp : p = nI N) (hM : rm_M h σ) (hG : rm_G h nh G O)
    (hq : ∀ h', rm_M h' (sp_hn nd nh N σ) → rm_G h' nh (sp_Gn nd nh N σ G) (sp_On nd nh N σ O) → rm_F h h' → Q 0 h') : wp_X6_goesFor h p Q := by
  subst hp
  unfold wp_X6_goesFor
  exact ⟨N + 1, m_hoursl hW hN hh hq N 0 h (Nat.zero_le _) (by omega) hM hG rm_F.refl⟩
theorem m_phs' (hW : sp_WF σ nd ns nh hr) {N : Nat} (hN : N ≤ 60) (hh : hr + 60 < 100000) {h : gw_H} {p : Int32} (hp : p = nI N) (hM : rm_M h σ)
    (hq : ∀ h', rm_M h' (sp_hn nd nh N σ) → rm_F h h' → Q 0 h') : wp_X6_goesFor h p Q :=
  m_phs hW hN hh hp hM rm_G.self (fun h' a _ c => hq h' a c)
end MHOUR2
