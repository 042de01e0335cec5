/-! what there is -/
def sp_oo (σ : Nat → Int32) : Nat → Int32
  | 0 => 0
  | d + 1 => sp_oo σ d + (if sp_op σ d then 1 else 0)
def sp_al (σ : Nat → Int32) : Nat → Int32
  | 0 => 0
  | j + 1 => sp_al σ j + sp_hd σ j 4
section OPS13
variable {hC hM : gw_H} {σ τ w : Nat → Int32} {nd ns nh hr ns' N : Nat}
theorem c_ool (hW : sp_WF σ nd ns nh hr) {h : gw_H} {b : Nat} (hR : rc_C b h σ nd ns nh) {Q : Int32 → gw_H → Prop} (hq : Q (sp_oo σ nd) h) :
    ∀ (n k : Nat), k ≤ nd → nd ≤ k + n → wl_X0_openOnes_4 b Q (n + 1) (sp_oo σ k) (nI k) h := by
  have h8 := hW.1.1
  intro n
  induction n with
  | zero =>
    intro k hk hn
    have : k = nd := by omega
    subst this
    unfold wl_X0_openOnes_4
    exact br_t (by rw [(rr_e5 hW hR).1]; exact nI_le (Nat.le_refl _) (by omega)) hq
  | succ n ih =>
    intro k hk hn
    unfold wl_X0_openOnes_4
    refine pk_le nd k (fun g => ?_) (fun g => c_op hW hR rfl g ?_) (rr_e5 hW hR).1 rfl (by omega) (by omega)
    · have : k = nd := by omega
      subst this
      exact hq
    · have nx : ∀ s, sp_oo σ (k + 1) = sp_oo σ k + s → wk_X0_openOnes_26 b (wl_X0_openOnes_4 b Q (n + 1)) Q (nI k) s (sp_oo σ k) h := by
        intro s hs
        unfold wk_X0_openOnes_26
        rw [← hs, nI_1]
        exact ih (k + 1) (by omega) (by omega)
      by_cases o : sp_op σ k = true
      · rw [if_pos o]; exact br_f rr_dec1 (nx 1 (by rw [sp_oo, if_pos o]))
      · rw [if_neg o]; exact br_t rfl (nx 0 (by rw [sp_oo, if_neg o]))
theorem sp_op_m {m d : Nat} (hm : σ 1 = nI m) (h : m < 2 ^ 31) (hd : d < 31) : sp_op σ d = decide (m / 2 ^ d % 2 = 1) := by
  unfold sp_op bt
  rw [hm, BitVec.getLsbD, pk_tn (by omega)]
  rw [Nat.testBit_eq_decide_div_mod_eq]
theorem m_bil {Q : Int32 → gw_H → Prop} {h : gw_H} {m : Nat} (hm : σ 1 = nI m) (hb : m < 2 ^ nd) (h8 : nd ≤ 8) {p : Int32} (hq : Q (sp_oo σ nd) h) :
    ∀ (n k : Nat), k ≤ nd → nd ≤ k + n → wl_X6_bits_4 p Q (n + 1) (sp_oo σ k) (nI (m / 2 ^ k)) h := by
  have m31 : m < 2 ^ 31 := Nat.lt_of_lt_of_le hb (Nat.pow_le_pow_right (by omega) (by omega))
  have stop : ∀ k, k ≤ nd → m / 2 ^ k = 0 → ∀ d, k + d ≤ nd → sp_oo σ (k + d) = sp_oo σ k := by
    intro k hk h0 d
    induction d with
    | zero => exact fun _ => rfl
    | succ d ih =>
      intro hd
      rw [← ih (by omega)]
      show sp_oo σ (k + d + 1) = _
      rw [sp_oo, sp_op_m hm m31 (by omega)]
      have : m / 2 ^ (k + d) = 0 := by rw [Nat.pow_add, ← Nat.div_div_eq_div_mul, h0, Nat.zero_div]
      rw [this]
      exact Int32.add_zero _
  have fin : ∀ k, k ≤ nd → m / 2 ^ k = 0 → Q (sp_oo σ k) h := by
    intro k hk h0
    have := stop k hk h0 (nd - k) (by omega)
    rw [show k + (nd - k) = nd by omega] at this
    rw [← this]; exact hq
  intro n
  induction n with
  | zero =>
    intro k hk hn
    have : k = nd := by omega
    subst this
    have z : m / 2 ^ k = 0 := Nat.div_eq_of_lt hb
    unfold wl_X6_bits_4
    exact br_t (by rw [z]; decide) (fin k (Nat.le_refl _) z)
  | succ n ih =>
    intro k hk hn
    have lt : m / 2 ^ k < 2 ^ 31 := Nat.lt_of_le_of_lt (Nat.div_le_self _ _) m31
    unfold wl_X6_bits_4
    refine pk_le (m / 2 ^ k) 0 (fun g => fin k hk (Nat.le_zero.mp g)) (fun g => ?_) rfl rfl lt (by omega)
    have hk' : k < nd := by
      by_cases z : k = nd
      · subst z
        rw [Nat.div_eq_of_lt hb] at g; omega
      · omega
    have e1 : nI (m / 2 ^ k) &&& 1 = nI (m / 2 ^ k % 2) := pk_andN (by omega) 1 (by decide)
    have e2 : nI (m / 2 ^ k) >>> (1 &&& 31) = nI (m / 2 ^ (k + 1)) := by
      rw [pk_shrN lt (1 &&& 31) 1 (by decide), Nat.div_div_eq_div_mul, ← Nat.pow_add]
    rw [e1, e2]
    have nx := ih (k + 1) (by omega) (by omega)
    rw [sp_oo, sp_op_m hm m31 (by omega)] at nx
    by_cases z : m / 2 ^ k % 2 = 1
    · rw [decide_eq_true z] at nx
      rw [z]; exact nx
    · rw [decide_eq_false z] at nx
      rw [show m / 2 ^ k % 2 = 0 by omega]; exact nx
theorem c_all (hW : sp_WF σ nd ns nh hr) {h : gw_H} {b : Nat} (hR : rc_C b h σ nd ns nh) {Q : Int32 → gw_H → Prop} (hq : Q (sp_al σ nh) h) :
    ∀ (n k : Nat), k ≤ nh → nh ≤ k + n → wl_X1_allStrength_4 b Q (n + 1) (sp_al σ k) (nI k) h := by
  have h6 := hW.1.2.2.1
  intro n
  induction n with
  | zero =>
    intro k hk hn
    have : k = nh := by omega
    subst this
    unfold wl_X1_allStrength_4
    exact br_t (by rw [(rr_e5 hW hR).2.2.1]; exact nI_le (Nat.le_refl _) (by omega)) hq
  | succ n ih =>
    intro k hk hn
    unfold wl_X1_allStrength_4
    refine pk_le nh k (fun g => ?_) (fun g => c_at k rfl (by omega) (by omega) ?_) (rr_e5 hW hR).2.2.1 rfl (by omega) (by omega)
    · have : k = nh := by omega
      subst this
      exact hq
    · rw [(hR.2.2.2 k g).2.2.2.2.1, nI_1]
      exact ih (k + 1) (by omega) (by omega)
theorem m_al (hW : sp_WF σ nd ns nh hr) {h : gw_H} (hM1 : rm_M h σ) {p : Int32} {Q : Int32 → gw_H → Prop} (hq : Q (sp_al σ nh) h) :
    ∀ (n k : Nat), k ≤ nh → nh ≤ k + n → wl_X6_count_126 p Q (n + 1) (sp_al σ k) (nI k) h := by
  have h6 := hW.1.2.2.1
  have e3 : h 2 3 = nI nh := (hM1 3 (by omega)).trans hW.2.1.2.2.1
  intro n
  induction n with
  | zero =>
    intro k hk hn
    have : k = nh := by omega
    subst this
    unfold wl_X6_count_126
    exact br_t (by rw [e3]; exact nI_le (Nat.le_refl _) (by omega)) hq
  | succ n ih =>
    intro k hk hn
    unfold wl_X6_count_126
    refine pk_le nh k (fun g => ?_) (fun g => m_at hM1 k 4 rfl rfl (by omega) (by omega) ?_) e3 rfl (by omega) (by omega)
    · have : k = nh := by omega
      subst this
      exact hq
    · rw [nI_1]
      exact ih (k + 1) (by omega) (by omega)
theorem o_count (R : RR hC hM) {p1 : Int32} : wp_X5_count hC p1 (fun r hC' => wp_X6_count hM p1 (rr_A r hC')) := by
  have me := R
  obtain ⟨σ, nd, ns, nh, hr, S⟩ := R
  have S : RS hC hM σ nd ns nh hr := S
  obtain ⟨hW, hh, hR, hM1, hX⟩ := id S
  obtain ⟨hK, ⟨m, l1, l2, l3, l4⟩, ⟨r, r1, r2, r3, r4⟩, hF⟩ := id hX
  obtain ⟨e1, e5, e9, eh⟩ := rr_e5 hW hR
  have h8 := hW.1.1
  have lo : ∀ {k : Nat} {Q : Int32 → gw_H → Prop}, k ≤ 10 → wk_X6_count_22 (nI k) Q hM → wp_X6_count hM (nI k) Q := by
    intro k Q hk q
    unfold wp_X6_count
    exact br_t (nI_le (b := 10) hk (by omega)) q
  unfold wp_X5_count
  by_cases hp : ∃ k : Nat, k < 17 ∧ p1 = nI k
  · obtain ⟨k, hk, rfl⟩ := hp
    have ne : ∀ i, i < 17 → k ≠ i → ¬ nI k = nI i := fun i hi h q => h ((nI_eq (by omega) (by omega)).mp q)
    have skip : ∀ {A B : Prop} (i : Nat), i < 17 → k ≠ i → B → (nI k = nI i → A) ∧ (¬ nI k = nI i → B) := fun i hi h b => br_f (ne i hi h) b
    by_cases g : 11 ≤ k
    · refine skip 0 (by omega) (by omega) (skip 1 (by omega) (by omega) (skip 2 (by omega) (by omega) (skip 3 (by omega) (by omega) (skip 4 (by omega) (by omega) (skip 5 (by omega) (by omega) (skip 6 (by omega) (by omega) (skip 7 (by omega) (by omega) (skip 8 (by omega) (by omega) (skip 9 (by omega) (by omega) ?_)))))))))
      have ek : nI k - 10 = nI (k - 10) := pk_sub (b := 10) (by omega)
      refine br_f (nI_nlt (b := 11) g (by omega)) (br_f (nI_nlt (a := 16) (by omega) (by omega)) (c_at (k - 10) ek (by omega) (by omega) ?_))
      unfold wp_X6_count
      refine br_f (nI_ge (b := k) (a := 10) (by omega) (by omega)) (br_f (nI_ge (b := 17) (a := k) (by omega) (by omega)) ?_)
      rw [ek, nI_clamp (by omega)]
      exact ⟨vp_in_nI (by omega) (by omega), hF (k - 10) (by omega), me⟩
    · have : k = 0 ∨ k = 1 ∨ k = 2 ∨ k = 3 ∨ k = 4 ∨ k = 5 ∨ k = 6 ∨ k = 7 ∨ k = 8 ∨ k = 9 ∨ k = 10 := by omega
      rcases this with rfl | rfl | rfl | rfl | rfl | rfl | rfl | rfl | rfl | rfl | rfl
      · refine br_t rfl (lo (by omega) ?_)
        unfold wk_X6_count_22
        exact br_t rfl ⟨hR.1.2.2.1.trans (hM1 3 (by omega)).symm, me⟩
      · refine skip 0 (by omega) (by omega) (br_t rfl (lo (by omega) ?_))
        unfold wk_X6_count_22
        exact skip 0 (by omega) (by omega) (br_t rfl ⟨hR.1.2.1.trans (hM1 2 (by omega)).symm, me⟩)
      · refine skip 0 (by omega) (by omega) (skip 1 (by omega) (by omega) (br_t rfl (lo (by omega) ?_)))
        unfold wk_X6_count_22
        exact skip 0 (by omega) (by omega) (skip 1 (by omega) (by omega) (br_t rfl ⟨hR.1.1.trans (hM1 0 (by omega)).symm, me⟩))
      · refine skip 0 (by omega) (by omega) (skip 1 (by omega) (by omega) (skip 2 (by omega) (by omega) (br_t rfl ?_)))
        unfold wp_X0_openOnes
        refine ⟨nd + 1, c_ool hW hR (lo (by omega) ?_) nd 0 (by omega) (by omega)⟩
        unfold wk_X6_count_22
        refine skip 0 (by omega) (by omega) (skip 1 (by omega) (by omega) (skip 2 (by omega) (by omega) (br_t rfl ?_)))
        unfold wp_X6_bits
        obtain ⟨v, hv, ev⟩ := hW.2.2.2.1
        have B := m_bil (Q := rr_A (sp_oo σ nd) hC) (h := hM) (p := hM 2 1) ev hv h8 ⟨rfl, me⟩ nd 0 (by omega) (by omega)
        rw [Nat.pow_zero, Nat.div_one, ← ev, ← hM1 1 (by omega)] at B
        exact ⟨nd + 1, B⟩
      · refine skip 0 (by omega) (by omega) (skip 1 (by omega) (by omega) (skip 2 (by omega) (by omega) (skip 3 (by omega) (by omega) (br_t rfl (lo (by omega) ?_)))))
        unfold wk_X6_count_22
        refine skip 0 (by omega) (by omega) (skip 1 (by omega) (by omega) (skip 2 (by omega) (by omega) (skip 3 (by omega) (by omega) (br_t rfl ⟨vp_in_nI (by omega) (by omega), ?_, me⟩))))
        rw [nI_clamp (by omega)]
        exact hR.1.2.2.2.1.trans (hM1 4 (by omega)).symm
      · refine skip 0 (by omega) (by omega) (skip 1 (by omega) (by omega) (skip 2 (by omega) (by omega) (skip 3 (by omega) (by omega) (skip 4 (by omega) (by omega) (br_t rfl (lo (by omega) ?_))))))
        unfold wk_X6_count_22
        refine skip 0 (by omega) (by omega) (skip 1 (by omega) (by omega) (skip 2 (by omega) (by omega) (skip 3 (by omega) (by omega) (skip 4 (by omega) (by omega) (br_t rfl ⟨vp_in_nI (by omega) (by omega), ?_, me⟩)))))
        rw [nI_clamp (by omega)]
        exact hR.1.2.2.2.2.trans (hM1 5 (by omega)).symm
      · refine skip 0 (by omega) (by omega) (skip 1 (by omega) (by omega) (skip 2 (by omega) (by omega) (skip 3 (by omega) (by omega) (skip 4 (by omega) (by omega) (skip 5 (by omega) (by omega) (br_t rfl (c_hv hW hR (Or.inl rfl) (lo (by omega) ?_))))))))
        unfold wk_X6_count_22
        exact skip 0 (by omega) (by omega) (skip 1 (by omega) (by omega) (skip 2 (by omega) (by omega) (skip 3 (by omega) (by omega) (skip 4 (by omega) (by omega) (skip 5 (by omega) (by omega) (br_t rfl (m_hv hW hM1 ⟨rfl, me⟩)))))))
      · refine skip 0 (by omega) (by omega) (skip 1 (by omega) (by omega) (skip 2 (by omega) (by omega) (skip 3 (by omega) (by omega) (skip 4 (by omega) (by omega) (skip 5 (by omega) (by omega) (skip 6 (by omega) (by omega) (br_t rfl ?_)))))))
        unfold wp_X1_allStrength
        refine ⟨nh + 1, c_all hW hR (lo (by omega) ?_) nh 0 (by omega) (by omega)⟩
        unfold wk_X6_count_22
        exact skip 0 (by omega) (by omega) (skip 1 (by omega) (by omega) (skip 2 (by omega) (by omega) (skip 3 (by omega) (by omega) (skip 4 (by omega) (by omega) (skip 5 (by omega) (by omega) (skip 6 (by omega) (by omega) (br_t rfl ⟨nh + 1, m_al hW hM1 ⟨rfl, me⟩ nh 0 (by omega) (by omega)⟩)))))))
      · refine skip 0 (by omega) (by omega) (skip 1 (by omega) (by omega) (skip 2 (by omega) (by omega) (skip 3 (by omega) (by omega) (skip 4 (by omega) (by omega) (skip 5 (by omega) (by omega) (skip 6 (by omega) (by omega) (skip 7 (by omega) (by omega) (br_t rfl (lo (by omega) ?_)))))))))
        unfold wk_X6_count_22
        exact skip 0 (by omega) (by omega) (skip 1 (by omega) (by omega) (skip 2 (by omega) (by omega) (skip 3 (by omega) (by omega) (skip 4 (by omega) (by omega) (skip 5 (by omega) (by omega) (skip 6 (by omega) (by omega) (skip 7 (by omega) (by omega) (br_t rfl ⟨l2.trans l3.symm, me⟩))))))))
      · refine skip 0 (by omega) (by omega) (skip 1 (by omega) (by omega) (skip 2 (by omega) (by omega) (skip 3 (by omega) (by omega) (skip 4 (by omega) (by omega) (skip 5 (by omega) (by omega) (skip 6 (by omega) (by omega) (skip 7 (by omega) (by omega) (skip 8 (by omega) (by omega) (br_t rfl (lo (by omega) ?_))))))))))
        unfold wk_X6_count_22
        exact skip 0 (by omega) (by omega) (skip 1 (by omega) (by omega) (skip 2 (by omega) (by omega) (skip 3 (by omega) (by omega) (skip 4 (by omega) (by omega) (skip 5 (by omega) (by omega) (skip 6 (by omega) (by omega) (skip 7 (by omega) (by omega) (skip 8 (by omega) (by omega) (br_t rfl ⟨r2.trans r3.symm, me⟩)))))))))
      · refine skip 0 (by omega) (by omega) (skip 1 (by omega) (by omega) (skip 2 (by omega) (by omega) (skip 3 (by omega) (by omega) (skip 4 (by omega) (by omega) (skip 5 (by omega) (by omega) (skip 6 (by omega) (by omega) (skip 7 (by omega) (by omega) (skip 8 (by omega) (by omega) (skip 9 (by omega) (by omega) (br_t (by decide) (lo (by omega) ?_)))))))))))
        unfold wk_X6_count_22
        exact skip 0 (by omega) (by omega) (skip 1 (by omega) (by omega) (skip 2 (by omega) (by omega) (skip 3 (by omega) (by omega) (skip 4 (by omega) (by omega) (skip 5 (by omega) (by omega) (skip 6 (by omega) (by omega) (skip 7 (by omega) (by omega) (skip 8 (by omega) (by omega) (skip 9 (by omega) (by omega) ⟨rfl, me⟩)))))))))
  · have ne : ∀ i, i < 17 → ¬ p1 = nI i := fun i hi q => hp ⟨i, hi, q⟩
    have skip : ∀ {A B : Prop} (i : Nat), i < 17 → B → (p1 = nI i → A) ∧ (¬ p1 = nI i → B) := fun i hi b => br_f (ne i hi) b
    have ou : wk_X6_count_22 p1 (rr_A (-9) hC) hM := by
      unfold wk_X6_count_22
      exact skip 0 (by omega) (skip 1 (by omega) (skip 2 (by omega) (skip 3 (by omega) (skip 4 (by omega) (skip 5 (by omega) (skip 6 (by omega) (skip 7 (by omega) (skip 8 (by omega) (skip 9 (by omega) ⟨rfl, me⟩)))))))))
    have md : wp_X6_count hM p1 (rr_A (-9) hC) := by
      unfold wp_X6_count
      refine ⟨fun _ => ou, fun c => ⟨fun _ => ou, fun d => ?_⟩⟩
      rcases pk_ix p1 (n := 17) (by omega) with q | q | ⟨i, hi, q⟩
      · exact absurd (Int32.le_of_lt (Int32.lt_of_lt_of_le q (show (0 : Int32) ≤ 10 by decide))) c
      · exact absurd q d
      · exact absurd q (ne i hi)
    refine skip 0 (by omega) (skip 1 (by omega) (skip 2 (by omega) (skip 3 (by omega) (skip 4 (by omega) (skip 5 (by omega) (skip 6 (by omega) (skip 7 (by omega) (skip 8 (by omega) (skip 9 (by omega) ⟨fun _ => md, fun c => ⟨fun _ => md, fun d => ?_⟩⟩)))))))))
    exfalso
    rcases pk_ix p1 (n := 17) (by omega) with q | q | ⟨i, hi, q⟩
    · exact c (Int32.lt_trans q (show (0 : Int32) < 11 by decide))
    · exact d (Int32.lt_of_lt_of_le (show (16 : Int32) < 17 by decide) q)
    · exact ne i hi q
end OPS13
