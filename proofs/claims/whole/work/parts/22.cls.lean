section CHOUR2
variable {Q : Int32 → gw_H → Prop} {b : Nat} {σ : Nat → Int32} {nd ns nh hr : Nat} {h0 : gw_H} {G O : Nat → Int32}
theorem rc_G.congr {h h' : gw_H} (hG : rc_G b h σ nh G O) (h16 : h' (b + 16) = h (b + 16)) (h17 : h' (b + 17) = h (b + 17)) : rc_G b h' σ nh G O := by
  intro j hj z
  rw [h16, h17]; exact hG j hj z
theorem c_ho2 (hW : sp_WF σ nd ns nh hr) (hG : rc_G b h0 σ nh G O)
    (hq : ∀ h', rc_C b h' (sp_ho σ nd nh) nd ns nh → rc_G b h' (sp_ho σ nd nh) nh (sp_G σ nd nh G) (sp_O σ nd nh O) → rc_N b h' (sp_ho σ nd nh) nh → rc_F b h0 h' → Q (sp_ct σ nd nh nh) h') :
    ∀ (n k : Nat) (h : gw_H), k ≤ nh → nh ≤ k + n → rc_C b h σ nd ns nh → rc_F b h0 h → h (b + 16) = h0 (b + 16) → h (b + 17) = h0 (b + 17) →
      (∀ i, i < nh → h (b + 18) i = sp_nb σ nd i nh ∧ h (b + 19) i = if sp_hu σ i then sp_hd σ i 3 else -9) →
      (∀ i, i < k → h (b + 20) i = sp_he σ nd nh i ∧ h (b + 21) i = (sp_ls σ nd i nh).2 ∧ h (b + 22) i = if 0 ≤ (sp_ls σ nd i nh).1 then h0 (b + 17) (sp_ls σ nd i nh).2.toNatClampNeg else -9) →
      wl_X2_passHour_77 b Q (n + 1) (nI k) h := by
  have hW' := hW
  obtain ⟨⟨h8, h5, h6, -⟩, ⟨-, e2, e3, -⟩, -⟩ := hW
  have ex : ∀ h, rc_C b h σ nd ns nh → rc_F b h0 h → h (b + 16) = h0 (b + 16) → h (b + 17) = h0 (b + 17) → (∀ i, i < nh → h (b + 20) i = sp_he σ nd nh i ∧ h (b + 21) i = (sp_ls σ nd i nh).2 ∧ h (b + 22) i = if 0 ≤ (sp_ls σ nd i nh).1 then h0 (b + 17) (sp_ls σ nd i nh).2.toNatClampNeg else -9) →
      ∃ n, wl_X2_passHour_103 b Q n 0 0 h := by
    intro h hR hF h16 h17 hA
    refine ⟨nh + 1, c_ho3 hW' hG hq nh 0 h (Nat.zero_le _) (by omega) hR hF hA (fun i hi z => ⟨fun q => by omega, fun _ => ?_⟩) (fun i hi => by omega)⟩
    rw [h16, h17]
    exact hG i hi z
  intro n
  induction n with
  | zero =>
    intro k h hk hn hR hF h16 h17 hN hA
    have : k = nh := by omega
    subst this
    unfold wl_X2_passHour_77
    exact br_t (by rw [hR.1.2.2.1, e3]; exact nI_le (Nat.le_refl _) (by omega)) (ex h hR hF h16 h17 hA)
  | succ n ih =>
    intro k h hk hn hR hF h16 h17 hN hA
    unfold wl_X2_passHour_77
    refine pk_le nh k (fun g => ?_) (fun g => ?_) (hR.1.2.2.1.trans e3) rfl (by omega) (by omega)
    · have : k = nh := by omega
      subst this
      exact ex h hR hF h16 h17 hA
    · refine c_lis hW' hR k rfl g (hN k g).1 (fun o ho => (hN o ho).2) ?_
      rw [nI_1]
      refine ih (k + 1) _ (by omega) (by omega) (((hR.irr (fun m hm => by omega)).irr (fun m hm => by omega)).irr (fun m hm => by omega)) (hF.trans (((rc_F.up 20 (by omega) rfl).trans (rc_F.up 21 (by omega) rfl)).trans (rc_F.up 22 (by omega) rfl))) ?_ ?_ (fun i hi => ?_) (fun i hi => ?_)
      · rw [gw_up_ne (by omega), gw_up_ne (by omega), gw_up_ne (by omega), h16]
      · rw [gw_up_ne (by omega), gw_up_ne (by omega), gw_up_ne (by omega), h17]
      · rw [gw_up_ne (by omega), gw_up_ne (by omega), gw_up_ne (by omega), gw_up_ne (by omega), gw_up_ne (by omega), gw_up_ne (by omega)]
        exact hN i hi
      · by_cases e : i = k
        · subst e
          rw [gw_up_ne (by omega), gw_up_ne (by omega), gw_up_ee, gw_up_ne (by omega), gw_up_ee, gw_up_ee, h17]
          exact ⟨rfl, rfl, rfl⟩
        · rw [gw_up_ne (by omega), gw_up_ne (by omega), gw_up_en e, gw_up_ne (by omega), gw_up_en e, gw_up_ne (by omega), gw_up_en e, gw_up_ne (by omega), gw_up_ne (by omega)]
          exact hA i (by omega)
theorem c_ho1 (hW : sp_WF σ nd ns nh hr) (hG : rc_G b h0 σ nh G O)
    (hq : ∀ h', rc_C b h' (sp_ho σ nd nh) nd ns nh → rc_G b h' (sp_ho σ nd nh) nh (sp_G σ nd nh G) (sp_O σ nd nh O) → rc_N b h' (sp_ho σ nd nh) nh → rc_F b h0 h' → Q (sp_ct σ nd nh nh) h') :
    ∀ (n k : Nat) (h : gw_H), k ≤ nh → nh ≤ k + n → rc_C b h σ nd ns nh → rc_F b h0 h → h (b + 16) = h0 (b + 16) → h (b + 17) = h0 (b + 17) →
      (∀ i, i < k → h (b + 18) i = sp_nb σ nd i nh ∧ h (b + 19) i = if sp_hu σ i then sp_hd σ i 3 else -9) →
      wl_X2_passHour_2 b Q (n + 1) (nI k) h := by
  have hW' := hW
  obtain ⟨⟨h8, h5, h6, -⟩, ⟨-, e2, e3, -⟩, -⟩ := hW
  intro n
  induction n with
  | zero =>
    intro k h hk hn hR hF h16 h17 hN
    have : k = nh := by omega
    subst this
    unfold wl_X2_passHour_2
    exact br_t (by rw [hR.1.2.2.1, e3]; exact nI_le (Nat.le_refl _) (by omega)) ⟨k + 1, c_ho2 hW' hG hq k 0 h (Nat.zero_le _) (by omega) hR hF h16 h17 hN (fun i hi => by omega)⟩
  | succ n ih =>
    intro k h hk hn hR hF h16 h17 hN
    unfold wl_X2_passHour_2
    refine pk_le nh k (fun g => ?_) (fun g => ?_) (hR.1.2.2.1.trans e3) rfl (by omega) (by omega)
    · have : k = nh := by omega
      subst this
      exact ⟨k + 1, c_ho2 hW' hG hq k 0 h (Nat.zero_le _) (by omega) hR hF h16 h17 hN (fun i hi => by omega)⟩
    · refine c_nb hW' hR k rfl g (c_put k rfl (by omega) (by omega) ?_)
      have hR1 : rc_C b (gw_up h (b + 18) k (sp_nb σ nd k nh)) σ nd ns nh := hR.irr (fun m hm => by omega)
      refine c_hu hW' hR1 hR1.1.2.2.2.2 hR1.1.2.2.2.1 k rfl g ?_
      have fin : ∀ s, s = (if sp_hu σ k then sp_hd σ k 3 else -9) → wk_X2_passHour_66 b (wl_X2_passHour_2 b Q (n + 1)) Q (nI k) s (nI k) (gw_up h (b + 18) k (sp_nb σ nd k nh)) := by
        intro s hs
        unfold wk_X2_passHour_66
        refine c_put k rfl (by omega) (by omega) ?_
        rw [nI_1]
        refine ih (k + 1) _ (by omega) (by omega) (hR1.irr (fun m hm => by omega)) (hF.trans ((rc_F.up 18 (by omega) rfl).trans (rc_F.up 19 (by omega) rfl))) ?_ ?_ (fun i hi => ?_)
        · rw [gw_up_ne (by omega), gw_up_ne (by omega), h16]
        · rw [gw_up_ne (by omega), gw_up_ne (by omega), h17]
        · by_cases e : i = k
          · subst e
            rw [gw_up_ne (by omega), gw_up_ee, gw_up_ee, hs]
            exact ⟨rfl, rfl⟩
          · rw [gw_up_ne (by omega), gw_up_en e, gw_up_en e, gw_up_ne (by omega)]
            exact hN i (by omega)
      cases hu : sp_hu σ k with
      | false =>
        exact br_t rfl (fin _ (by rw [hu]; rfl))
      | true =>
        refine br_f (by decide) (c_at k rfl (by omega) (by omega) (fin _ ?_))
        rw [hu, (hR1.2.2.2 k g).2.2.2.1]; rfl
/-- AN HOUR -/
theorem c_hour (hW : sp_WF σ nd ns nh hr) {h : gw_H} (hR : rc_C b h σ nd ns nh) (hG : rc_G b h σ nh G O)
    (hq : ∀ h', rc_C b h' (sp_ho σ nd nh) nd ns nh → rc_G b h' (sp_ho σ nd nh) nh (sp_G σ nd nh G) (sp_O σ nd nh O) → rc_N b h' (sp_ho σ nd nh) nh → rc_F b h h' → Q (sp_ct σ nd nh nh) h') : wp_X2_passHour h b Q := by
  unfold wp_X2_passHour
  exact ⟨nh + 1, c_ho1 hW hG hq nh 0 h (Nat.zero_le _) (by omega) hR rc_F.refl rfl rfl (fun i hi => by omega)⟩
theorem rc_G.self {h : gw_H} : rc_G b h σ nh (h (b + 16)) (h (b + 17)) := fun _ _ _ => ⟨rfl, rfl⟩
/-- an hour, when nobody asks from whom -/
theorem c_hour' (hW : sp_WF σ nd ns nh hr) {h : gw_H} (hR : rc_C b h σ nd ns nh) (hq : ∀ h', rc_C b h' (sp_ho σ nd nh) nd ns nh → rc_F b h h' → Q (sp_ct σ nd nh nh) h') : wp_X2_passHour h b Q :=
  c_hour hW hR rc_G.self (fun h' a _ _ c => hq h' a c)
theorem sp_hns (nd nh : Nat) (σ : Nat → Int32) : ∀ n, sp_hn nd nh n (sp_ho σ nd nh) = sp_hn nd nh (n + 1) σ := by
  intro n
  induction n with
  | zero => rfl
  | succ n ih => rw [sp_hn, ih]; rfl
theorem c_hours (hW : sp_WF σ nd ns nh hr) {N : Nat} (hN : N ≤ 60) (hh : hr + 60 < 100000) {h0 : gw_H} (hG : rc_G b h0 σ nh G O)
    (hq : ∀ h', rc_C b h' (sp_hn nd nh N σ) nd ns nh → rc_G b h' (sp_hn nd nh N σ) nh (sp_Gn nd nh N σ G) (sp_On nd nh N σ O) → rc_N b h' (sp_hn nd nh N σ) nh → rc_F b h0 h' → Q 0 h') :
    ∀ (n k : Nat) (h : gw_H), k ≤ N → N ≤ k + n → rc_C b h (sp_hn nd nh k σ) nd ns nh → rc_G b h (sp_hn nd nh k σ) nh (sp_Gn nd nh k σ G) (sp_On nd nh k σ O) → rc_N b h (sp_hn nd nh k σ) nh → rc_F b h0 h → wl_X2_passHours_2 b (nI N) Q (n + 1) (nI k) h := by
  intro n
  induction n with
  | zero =>
    intro k h hk hn hR hG hN' hF
    have : k = N := by omega
    subst this
    unfold wl_X2_passHours_2
    exact br_t (nI_le (Nat.le_refl _) (by omega)) (hq h hR hG hN' hF)
  | succ n ih =>
    intro k h hk hn hR hG hN' hF
    unfold wl_X2_passHours_2
    refine pk_le N k (fun g => ?_) (fun g => ?_) rfl rfl (by omega) (by omega)
    · have : k = N := by omega
      subst this
      exact hq h hR hG hN' hF
    · refine c_hour (hW.hn k (by omega)) hR hG (fun h' a1 a2 a4 a3 => ?_)
      rw [nI_1]
      exact ih (k + 1) h' (by omega) (by omega) a1 a2 a4 (hF.trans a3)
theorem c_phs (hW : sp_WF σ nd ns nh hr) {N : Nat} (hN : N ≤ 60) (hh : hr + 60 < 100000) {h : gw_H} {p : Int32} (hp : p = nI N) (hR : rc_C b h σ nd ns nh) (hG : rc_G b h σ nh G O) (hN0 : rc_N b h σ nh)
    (hq : ∀ h', rc_C b h' (sp_hn nd nh N σ) nd ns nh → rc_G b h' (sp_hn nd nh N σ) nh (sp_Gn nd nh N σ G) (sp_On nd nh N σ O) → rc_N b h' (sp_hn nd nh N σ) nh → rc_F b h h' → Q 0 h') : wp_X2_passHours h b p Q := by
  subst hp
  unfold wp_X2_passHours
  exact ⟨N + 1, c_hours hW hN hh hG hq N 0 h (Nat.zero_le _) (by omega) hR hG hN0 rc_F.refl⟩
/-- so many hours, when nobody asks from whom -/
theorem c_hours' (hW : sp_WF σ nd ns nh hr) {N : Nat} (hN : N ≤ 60) (hh : hr + 60 < 100000) {h0 : gw_H}
    (hq : ∀ h', rc_C b h' (sp_hn nd nh N σ) nd ns nh → rc_F b h0 h' → Q 0 h') :
    ∀ (n k : Nat) (h : gw_H), k ≤ N → N ≤ k + n → rc_C b h (sp_hn nd nh k σ) nd ns nh → rc_F b h0 h → wl_X2_passHours_2 b (nI N) Q (n + 1) (nI k) h := by
  intro n
  induction n with
  | zero =>
    intro k h hk hn hR hF
    have : k = N := by omega
    subst this
    unfold wl_X2_passHours_2
    exact br_t (nI_le (Nat.le_refl _) (by omega)) (hq h hR hF)
  | succ n ih =>
    intro k h hk hn hR hF
    unfold wl_X2_passHours_2
    refine pk_le N k (fun g => ?_) (fun g => ?_) rfl rfl (by omega) (by omega)
    · have : k = N := by omega
      subst this
      exact hq h hR hF
    · refine c_hour' (hW.hn k (by omega)) hR (fun h' a1 a3 => ?_)
      rw [nI_1]
      exact ih (k + 1) h' (by omega) (by omega) a1 (hF.trans a3)
theorem c_phs' (hW : sp_WF σ nd ns nh hr) {N : Nat} (hN : N ≤ 60) (hh : hr + 60 < 100000) {h : gw_H} {p : Int32} (hp : p = nI N) (hR : rc_C b h σ nd ns nh)
    (hq : ∀ h', rc_C b h' (sp_hn nd nh N σ) nd ns nh → rc_F b h h' → Q 0 h') : wp_X2_passHours h b p Q := by
  subst hp
  unfold wp_X2_passHours
  exact ⟨N + 1, c_hours' hW hN hh hq N 0 h (Nat.zero_le _) (by omega) hR rc_F.refl⟩
end CHOUR2
