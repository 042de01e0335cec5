/-! what a head hears best -/
section CLS
variable {σ : Nat → Int32} {nd ns nh hr : Nat}
theorem sp_WF.son (hW : sp_WF σ nd ns nh hr) {j : Nat} (hj : j < nh) : sp_hd σ j 3 = -9 ∨ ∃ i, i < ns ∧ sp_hd σ j 3 = nI i := by
  rcases (hW.2.2.2.2.2.2 j hj).2.2.2.1 with ⟨g, -⟩ | g
  · exact Or.inl g
  · exact Or.inr g
theorem sp_hus {j : Nat} (h : sp_hu σ j = true) : 0 ≤ sp_hd σ j 3 := by
  unfold sp_hu at h
  simp only [Bool.and_eq_true, decide_eq_true_eq] at h
  exact h.1
theorem n9_neg : ¬ (0 : Int32) ≤ -9 := by decide
theorem n9_lt : (-9 : Int32) < 0 := by decide
theorem n9_ne {i : Nat} (h : i < 2 ^ 31) : ¬ nI i = -9 := by
  intro c
  have := congrArg Int32.toInt c
  rw [nI_toInt h] at this
  have e9 : Int32.toInt (-9) = -9 := by decide
  omega
/-- what the fold gives: none, or a song that one of those before hums -/
theorem sp_lsw (hW : sp_WF σ nd ns nh hr) (j : Nat) : ∀ o, o ≤ nh → (sp_ls σ nd j o = (-9, -9)) ∨ ∃ i g, i < ns ∧ g < o ∧ sp_ls σ nd j o = (nI i, nI g) ∧ 0 ≤ sp_hd σ g 3 := by
  intro o
  induction o with
  | zero => intro _; exact Or.inl rfl
  | succ o ih =>
    intro ho
    rw [sp_ls]
    by_cases hc : (sp_hu σ o && (sp_ne σ nd j o && (decide (sp_hd σ o 3 ≠ sp_hd σ j 3) && (decide ((sp_ls σ nd j o).1 < 0) || (decide (sp_sg σ (sp_ls σ nd j o).1.toNatClampNeg 1 < sp_sg σ (sp_hd σ o 3).toNatClampNeg 1) || (decide (sp_sg σ (sp_hd σ o 3).toNatClampNeg 1 = sp_sg σ (sp_ls σ nd j o).1.toNatClampNeg 1) && decide (sp_hd σ o 3 < (sp_ls σ nd j o).1))))))) = true
    · rw [if_pos hc]
      have hu := sp_hus (by simp only [Bool.and_eq_true] at hc; exact hc.1)
      rcases hW.son (j := o) (by omega) with e | ⟨i, hi, e⟩
      · rw [e] at hu; exact absurd hu n9_neg
      · exact Or.inr ⟨i, o, hi, by omega, by rw [e], hu⟩
    · rw [if_neg hc]
      rcases ih (by omega) with e | ⟨i, g, h1, h2, h3, h4⟩
      · exact Or.inl e
      · exact Or.inr ⟨i, g, h1, by omega, h3, h4⟩
theorem sp_hew (hW : sp_WF σ nd ns nh hr) (j : Nat) : sp_he σ nd nh j = -9 ∨ ∃ i g, i < ns ∧ g < nh ∧ sp_ls σ nd j nh = (nI i, nI g) ∧ sp_he σ nd nh j = nI i ∧ 0 ≤ sp_hd σ g 3 := by
  unfold sp_he
  rcases sp_lsw hW j nh (Nat.le_refl _) with e | ⟨i, g, h1, h2, h3, h4⟩
  · rw [e]; exact Or.inl (if_neg n9_neg)
  · rw [h3]
    by_cases c : 0 ≤ (nI i, nI g).1
    · rw [if_pos c]
      split
      · exact Or.inl rfl
      · exact Or.inr ⟨i, g, h1, h2, rfl, rfl, h4⟩
    · rw [if_neg c]; exact Or.inl rfl
/-- one more of those who may be heard, by cases -/
theorem sp_lsn {j o : Nat} (hc : sp_hu σ o = false ∨ sp_ne σ nd j o = false ∨ sp_hd σ o 3 = sp_hd σ j 3) : sp_ls σ nd j (o + 1) = sp_ls σ nd j o := by
  rw [sp_ls, if_neg]
  rcases hc with h | h | h <;> simp [h]
end CLS
section CLISTEN
variable {h : gw_H} {Q : Int32 → gw_H → Prop} {b : Nat} {σ : Nat → Int32} {nd ns nh hr : Nat}
theorem c_sub0 {a b : Nat} (ha : a < 1000) (hb : b < 1000) : (nI a - nI b = 0 ↔ a = b) ∧ (0 < nI a - nI b ↔ b < a) := by
  have e : (nI a - nI b).toInt = (a : Int) - b := pk_sub_toInt (by omega) (by omega)
  constructor
  · constructor
    · intro q
      have := congrArg Int32.toInt q
      rw [e] at this
      have e0 : Int32.toInt 0 = 0 := by decide
      omega
    · intro q; subst q; simp
  · rw [Int32.lt_iff_toInt_lt, e]
    have e0 : Int32.toInt 0 = 0 := by decide
    omega
/-- is a song that is heard stronger than the best until now (or there is none until now) -/
theorem c_st (hW : sp_WF σ nd ns nh hr) (hR : rc_C b h σ nd ns nh) {p t : Int32} {i : Nat} (hp : p = nI i) (hi : i < ns) (ht : t = -9 ∨ ∃ k, k < ns ∧ t = nI k)
    (hq : Q (if (decide (t < 0) || (decide (sp_sg σ t.toNatClampNeg 1 < sp_sg σ p.toNatClampNeg 1) || (decide (sp_sg σ p.toNatClampNeg 1 = sp_sg σ t.toNatClampNeg 1) && decide (p < t)))) = true then 1 else 0) h) : wp_X3_isStronger h b p t Q := by
  obtain ⟨⟨-, h5, -⟩, ⟨-, e2, -⟩, -, -, -, hS, -⟩ := hW
  have r2 := hR.1.2.1
  rw [e2] at r2
  subst hp
  unfold wp_X3_isStronger
  refine c_sh r2 (by omega) (fun q => c_nr rfl hi (by omega) q) (fun _ _ _ => br_f (by decide) ?_)
  rcases ht with rfl | ⟨k, hk, rfl⟩
  · refine c_sh r2 (by omega) (fun q => bn_t rfl ?_) (fun k' hk' e => absurd e.symm (n9_ne (by omega)))
    unfold wk_X3_isStronger_16
    refine c_sh r2 (by omega) (fun q => c_nr rfl hi (by omega) q) (fun _ _ _ => ⟨rfl, ?_⟩)
    simpa [n9_lt] using hq
  · refine c_sh r2 (by omega) (fun q => c_nr rfl hk (by omega) q) (fun _ _ _ => bn_f (by decide) ?_)
    refine c_at i rfl (by omega) (by omega) (c_at k rfl (by omega) (by omega) ?_)
    obtain ⟨-, ⟨pi, l1, g1⟩, -⟩ := hS i hi
    obtain ⟨-, ⟨pk, l2, g2⟩, -⟩ := hS k hk
    rw [(hR.2.2.1 i hi).2.1, (hR.2.2.1 k hk).2.1]
    rw [nI_clamp (by omega), nI_clamp (by omega), g1, g2] at hq
    rw [g1, g2]
    obtain ⟨z1, z2⟩ := c_sub0 (a := pi) (b := pk) (by omega) (by omega)
    rw [z1, z2]
    have hn : ¬ nI k < 0 := nI_pos (by omega)
    simp only [hn, decide_false, Bool.false_or, nI_ltI (show pk < 2 ^ 31 by omega) (show pi < 2 ^ 31 by omega), nI_eq (show pi < 2 ^ 31 by omega) (show pk < 2 ^ 31 by omega), nI_ltI (show i < 2 ^ 31 by omega) (show k < 2 ^ 31 by omega)] at hq
    rw [nI_leI (show k < 2 ^ 31 by omega) (show i < 2 ^ 31 by omega)]
    refine br_c (fun c => ?_) (fun c => ⟨fun d => ?_, fun d => br_c (fun e => ?_) (fun e => ?_)⟩)
    · simpa [c] using hq
    · simpa [c, d] using hq
    · have : ¬ i < k := by omega
      simpa [c, this] using hq
    · have : i < k := by omega
      simpa [c, d, this] using hq
theorem c_lisl (hW : sp_WF σ nd ns nh hr) (hR : rc_C b h σ nd ns nh) {j : Nat} (hj : j < nh) (hN : h (b + 18) j = sp_nb σ nd j nh) (hM : ∀ o, o < nh → h (b + 19) o = if sp_hu σ o then sp_hd σ o 3 else -9)
    (hq : Q 0 (gw_up (gw_up (gw_up h (b + 20) j (sp_he σ nd nh j)) (b + 21) j (sp_ls σ nd j nh).2) (b + 22) j (if 0 ≤ (sp_ls σ nd j nh).1 then h (b + 17) (sp_ls σ nd j nh).2.toNatClampNeg else -9))) :
    ∀ (n o : Nat), o ≤ nh → nh ≤ o + n → wl_X2_listen_9 b (nI j) Q (n + 1) (sp_ls σ nd j o).1 (sp_ls σ nd j o).2 (nI o) h := by
  have hW' := hW
  obtain ⟨⟨-, h5, h6, -⟩, ⟨-, e2, e3, -⟩, -, -, -, hS, hH⟩ := hW
  have r2 := hR.1.2.1
  rw [e2] at r2
  have r3 := hR.1.2.2.1
  rw [e3] at r3
  have fin : wk_X2_listen_162 b (nI j) Q (sp_ls σ nd j nh).1 (sp_ls σ nd j nh).2 (if sp_he σ nd nh j = -9 then 0 else 1) h := by
    have hw := sp_lsw hW' j nh (Nat.le_refl _)
    have key : ∀ s, s = sp_he σ nd nh j → wk_X2_listen_180 b (nI j) Q (sp_ls σ nd j nh).2 s (nI j) h := by
      intro s hs
      subst hs
      unfold wk_X2_listen_180
      refine c_put j rfl (by omega) (by omega) (c_put j rfl (by omega) (by omega) ?_)
      rcases hw with e | ⟨i, g, h1, h2, h3, h4⟩
      · rw [e] at hq ⊢
        rw [if_neg n9_neg] at hq
        exact c_atn n9_lt (c_put j rfl (by omega) (by omega) hq)
      · rw [h3] at hq ⊢
        rw [if_pos (nI_pos' (by omega)), nI_clamp (by omega)] at hq
        refine c_at g rfl (by omega) (by omega) (c_put j rfl (by omega) (by omega) ?_)
        rw [gw_up_r, gw_up_r, if_neg (by omega), if_neg (by omega)]
        exact hq
    unfold wk_X2_listen_162
    rcases sp_hew hW' j with e | ⟨i, g, h1, h2, h3, h4, h5⟩
    · rw [if_pos e]
      exact br_t rfl (key _ e.symm)
    · have hne : ¬ sp_he σ nd nh j = -9 := by rw [h4]; exact n9_ne (by omega)
      rw [if_neg hne]
      refine br_f (by decide) (key _ ?_)
      rw [h3, h4]
  have ex : wp_X3_has h b (sp_ls σ nd j nh).1 (fun r_3 h_2 => ((r_3 = (0 : Int32) → (wk_X2_listen_161 b (nI j) Q (sp_ls σ nd j nh).1 (sp_ls σ nd j nh).2 h_2)) ∧ (¬ r_3 = (0 : Int32) → (wp_X5_at h_2 (b + 7) 5 (sp_ls σ nd j nh).1 (fun r_12 h_11 => (wp_X1_bar h_11 b (nI j) (fun r_14 h_13 => ((r_12 ≤ r_14 → (wk_X2_listen_161 b (nI j) Q (sp_ls σ nd j nh).1 (sp_ls σ nd j nh).2 h_13)) ∧ (¬ r_12 ≤ r_14 → (wp_X3_fresh h_13 b (sp_ls σ nd j nh).1 (fun r_17 h_16 => (wp_X5_at h_16 (b + 14) 6 (nI j) (fun r_19 h_18 => ((r_17 ≤ r_19 → (wk_X2_listen_161 b (nI j) Q (sp_ls σ nd j nh).1 (sp_ls σ nd j nh).2 h_18)) ∧ (¬ r_17 ≤ r_19 → (wk_X2_listen_162 b (nI j) Q (sp_ls σ nd j nh).1 (sp_ls σ nd j nh).2 (1 : Int32) h_18)))))))))))))))) := by
    have f0 : sp_he σ nd nh j = -9 → wk_X2_listen_161 b (nI j) Q (sp_ls σ nd j nh).1 (sp_ls σ nd j nh).2 h := by
      intro e
      rw [if_pos e] at fin
      exact fin
    rcases sp_lsw hW' j nh (Nat.le_refl _) with e | ⟨i, g, h1, h2, h3, h4⟩
    · have he9 : sp_he σ nd nh j = -9 := by unfold sp_he; rw [e]; exact if_neg n9_neg
      have f := f0 he9
      rw [e] at f ⊢
      refine c_sh r2 (by omega) (fun _ => br_t rfl f) (fun k hk q => absurd q.symm (n9_ne (by omega)))
    · have hv : sp_he σ nd nh j = if sp_sg σ i 1 ≤ sp_ba σ j ∨ sp_fr σ i ≤ sp_hd σ j 4 then -9 else nI i := by
        unfold sp_he
        rw [h3, if_pos (nI_pos' (by omega)), nI_clamp (by omega)]
      rw [h3] at f0 fin ⊢
      refine c_sh r2 (by omega) (fun q => c_nr rfl h1 (by omega) q) (fun _ _ _ => br_f (by decide) ?_)
      refine c_at i rfl (by omega) (by omega) (c_ba hW' hR j rfl hj ?_)
      rw [(hR.2.2.1 i h1).2.1]
      refine br_c (fun c => f0 (by rw [hv, if_pos (Or.inl c)])) (fun c => c_fr hW' hR i rfl h1 (c_at j rfl (by omega) (by omega) ?_))
      rw [(hR.2.2.2 j hj).2.2.2.2.1]
      refine br_c (fun d => f0 (by rw [hv, if_pos (Or.inr d)])) (fun d => ?_)
      rw [if_neg (by rw [hv, if_neg (fun z => z.elim c d)]; exact n9_ne (by omega))] at fin
      exact fin
  intro n
  induction n with
  | zero =>
    intro o ho hn
    have : o = nh := by omega
    subst this
    unfold wl_X2_listen_9
    exact br_t (by rw [r3]; exact nI_le (Nat.le_refl _) (by omega)) ex
  | succ n ih =>
    intro o ho hn
    unfold wl_X2_listen_9
    refine pk_le nh o (fun g => ?_) (fun g => ?_) r3 rfl (by omega) (by omega)
    · have : o = nh := by omega
      subst this
      exact ex
    · have nx : ∀ x2 x3, x2 = (sp_ls σ nd j (o + 1)).1 → x3 = (sp_ls σ nd j (o + 1)).2 → wk_X2_listen_96 b (nI j) (wl_X2_listen_9 b (nI j) Q (n + 1)) Q x2 x3 (nI o) h := by
        intro x2 x3 q1 q2
        subst q1 q2
        unfold wk_X2_listen_96
        rw [nI_1]
        exact ih (o + 1) (by omega) (by omega)
      have same : sp_ls σ nd j (o + 1) = sp_ls σ nd j o → wk_X2_listen_96 b (nI j) (wl_X2_listen_9 b (nI j) Q (n + 1)) Q (sp_ls σ nd j o).1 (sp_ls σ nd j o).2 (nI o) h := by
        intro q
        exact nx _ _ (by rw [q]) (by rw [q])
      refine c_at o rfl (by omega) (by omega) (c_at j rfl (by omega) (by omega) ?_)
      rw [hN, hM o g]
      rw [b_test (show o < 32 by omega), sp_nbt σ nd j nh o (by omega) (by omega)]
      have hlt : decide (o < nh) = true := by simp [g]
      rw [hlt, Bool.true_and]
      refine ⟨fun c => ?_, fun c => ?_⟩
      · unfold wk_X2_listen_54
        exact br_t rfl (same (sp_lsn (Or.inr (Or.inl (by simpa using c)))))
      · unfold wk_X2_listen_54
        refine br_f (by decide) (c_at j rfl (by omega) (by omega) ?_)
        rw [(hR.2.2.2 j hj).2.2.2.1]
        cases hu : sp_hu σ o with
        | false =>
          refine br_c (fun _ => same (sp_lsn (Or.inl hu))) (fun _ => ?_)
          have e9 : (if false = true then sp_hd σ o 3 else -9) = -9 := rfl
          rw [e9]
          unfold wp_X3_isStronger
          refine c_sh r2 (by omega) (fun q => br_t rfl ?_) (fun k hk q => absurd q.symm (n9_ne (by omega)))
          unfold wk_X3_isStronger_16
          exact c_sh r2 (by omega) (fun q => ⟨rfl, br_t rfl (same (sp_lsn (Or.inl hu)))⟩) (fun k hk q => absurd q.symm (n9_ne (by omega)))
        | true =>
          have e9 : (if true = true then sp_hd σ o 3 else -9) = sp_hd σ o 3 := rfl
          rw [e9]
          have hus := sp_hus hu
          refine br_c (fun q => same (sp_lsn (Or.inr (Or.inr q)))) (fun q => ?_)
          obtain ⟨i, hi, ei⟩ : ∃ i, i < ns ∧ sp_hd σ o 3 = nI i := by
            rcases hW'.son g with e | e
            · rw [e] at hus; exact absurd hus n9_neg
            · exact e
          have ht : (sp_ls σ nd j o).1 = -9 ∨ ∃ k, k < ns ∧ (sp_ls σ nd j o).1 = nI k := by
            rcases sp_lsw hW' j o (by omega) with e | ⟨k, g2, a1, a2, a3, a4⟩
            · rw [e]; exact Or.inl rfl
            · rw [a3]; exact Or.inr ⟨k, a1, rfl⟩
          refine c_st hW' hR ei hi ht ?_
          have el : sp_ls σ nd j (o + 1) = if (decide ((sp_ls σ nd j o).1 < 0) || (decide (sp_sg σ (sp_ls σ nd j o).1.toNatClampNeg 1 < sp_sg σ (sp_hd σ o 3).toNatClampNeg 1) || (decide (sp_sg σ (sp_hd σ o 3).toNatClampNeg 1 = sp_sg σ (sp_ls σ nd j o).1.toNatClampNeg 1) && decide (sp_hd σ o 3 < (sp_ls σ nd j o).1)))) = true then (sp_hd σ o 3, nI o) else sp_ls σ nd j o := by
            rw [sp_ls, hu, c]
            have : decide (sp_hd σ o 3 ≠ sp_hd σ j 3) = true := by simp [q]
            rw [this, Bool.true_and, Bool.true_and, Bool.true_and]
          by_cases z : (decide ((sp_ls σ nd j o).1 < 0) || (decide (sp_sg σ (sp_ls σ nd j o).1.toNatClampNeg 1 < sp_sg σ (sp_hd σ o 3).toNatClampNeg 1) || (decide (sp_sg σ (sp_hd σ o 3).toNatClampNeg 1 = sp_sg σ (sp_ls σ nd j o).1.toNatClampNeg 1) && decide (sp_hd σ o 3 < (sp_ls σ nd j o).1)))) = true
          · rw [if_pos z]
            rw [if_pos z] at el
            exact br_f (by decide) (nx _ _ (by rw [el]) (by rw [el]))
          · rw [if_neg z]
            rw [if_neg z] at el
            exact br_t rfl (same el)
theorem c_lis (hW : sp_WF σ nd ns nh hr) (hR : rc_C b h σ nd ns nh) {p : Int32} (j : Nat) (hp : p = nI j) (hj : j < nh) (hN : h (b + 18) j = sp_nb σ nd j nh) (hM : ∀ o, o < nh → h (b + 19) o = if sp_hu σ o then sp_hd σ o 3 else -9)
    (hq : Q 0 (gw_up (gw_up (gw_up h (b + 20) j (sp_he σ nd nh j)) (b + 21) j (sp_ls σ nd j nh).2) (b + 22) j (if 0 ≤ (sp_ls σ nd j nh).1 then h (b + 17) (sp_ls σ nd j nh).2.toNatClampNeg else -9))) : wp_X2_listen h b p Q := by
  subst hp
  unfold wp_X2_listen
  exact ⟨nh + 1, c_lisl hW hR hj hN hM hq nh 0 (Nat.zero_le _) (by omega)⟩
end CLISTEN
