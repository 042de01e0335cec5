section MHOUR
variable {h : gw_H} {Q : Int32 → gw_H → Prop} {σ : Nat → Int32} {nd ns nh hr : Nat}
/-- he gets a song: two places of the row -/
theorem m_gt (hW : sp_WF σ nd ns nh hr) (hM : rm_M h σ) {p s : Int32} (j : Nat) (hp : p = nI j) (hj : j < 6) (hs : s = -9 ∨ s < 0 ∨ ∃ i, i < ns ∧ s = nI i) (hq : ∀ h', rm_M h' (sp_gt σ j s) → (∀ c, c ≠ 2 → h' c = h c) → Q 0 h') : wp_X6_gets h p s Q := by
  have h5 := hW.1.2.1
  have ng : (s < 0) → wp_X6_gets h p s Q := by
    intro c
    unfold wp_X6_gets
    have c' : ¬ 0 ≤ s := fun z => by rw [Int32.le_iff_toInt_le] at z; rw [Int32.lt_iff_toInt_lt] at c; omega
    refine br_f c' ?_
    unfold wk_X6_gets_13
    refine m_pu j 3 hp rfl hj (by omega) (br_f c' ?_)
    unfold wk_X6_gets_32
    refine m_pu j 4 hp rfl hj (by omega) (hq _ ?_ (fun k hk => by rw [gw_up_ne hk, gw_up_ne hk]))
    unfold sp_gt
    rw [if_pos c]
    exact (hM.up _ _).up _ _
  rcases hs with e | e | ⟨i, hi, e⟩
  · exact ng (by rw [e]; exact n9_lt)
  · exact ng e
  · subst e
    unfold wp_X6_gets
    refine br_t (nI_pos' (by omega)) ?_
    unfold wk_X6_gets_13
    refine m_pu j 3 hp rfl hj (by omega) (br_t (nI_pos' (by omega)) ?_)
    have hM1 := hM.up (37 + 6 * j + 3) (nI i)
    refine m_fr hM1 i rfl (by omega) ?_
    unfold wk_X6_gets_32
    refine m_pu j 4 hp rfl hj (by omega) (hq _ ?_ (fun k hk => by rw [gw_up_ne hk, gw_up_ne hk]))
    rw [sp_gts j (by omega), ← sp_fru (σ := σ) (j := j) (k := 3) (v := nI i) (by omega)]
    exact hM1.up _ _
theorem m_lt0 {x : Int32} : x < 0 ↔ ¬ 0 ≤ x := Int32.not_le.symm
/-- his song fades -/
theorem m_wa (hW : sp_WF σ nd ns nh hr) (hM : rm_M h σ) {p : Int32} (j : Nat) (hp : p = nI j) (hj : j < nh) (hq : ∀ h', rm_M h' (sp_wa σ j) → (∀ c, c ≠ 2 → h' c = h c) → Q 0 h') : wp_X6_wanes h p Q := by
  have h6 := hW.1.2.2.1
  have h5 := hW.1.2.1
  unfold wp_X6_wanes
  refine m_at hM j 3 hp rfl (by omega) (by omega) ?_
  rcases hW.son hj with e | ⟨i, hi, e⟩
  · rw [e]
    refine br_f n9_neg (hq h ?_ (fun _ _ => rfl))
    unfold sp_wa
    rw [e, if_pos n9_lt]; exact hM
  · rw [e]
    refine br_t (nI_pos' (by omega)) (m_at hM j 4 hp rfl (by omega) (by omega) (m_fd hW hM i rfl hi (m_at hM j 5 hp rfl (by omega) (by omega) ?_)))
    have ew : sp_wa σ j = sp_sv σ j (if 60 < sp_wv σ j then 60 else sp_wv σ j) := by
      unfold sp_wa; rw [e, if_neg (nI_pos (by omega))]
    have vw : ∀ s, s = (if 0 < sp_hd σ j 5 then (1 : Int32) else 0) → sp_hd σ j 4 - sp_fd σ i - s = sp_wv σ j := by
      intro s hs; unfold sp_wv; rw [e, nI_clamp (by omega), hs]
    have fin : ∀ v, v = (if 60 < sp_wv σ j then 60 else sp_wv σ j) → wk_X6_wanes_52 p Q v h := by
      intro v hv
      unfold wk_X6_wanes_52
      rw [ew, ← hv] at hq
      refine br_c (fun c => m_pu j 4 hp rfl (by omega) (by omega) (hq _ ?_ (fun k hk => gw_up_ne hk))) (fun c => m_gt hW hM j hp (by omega) (Or.inl rfl) (fun h' a1 a2 => hq h' ?_ a2))
      · unfold sp_sv; rw [if_neg (Int32.not_le.mpr c)]
        exact hM.up _ _
      · unfold sp_sv; rw [if_pos (Int32.not_lt.mp c)]
        exact a1
    have mid : ∀ s, s = (if 0 < sp_hd σ j 5 then (1 : Int32) else 0) → wk_X6_wanes_38 p Q s (sp_hd σ j 4 - sp_fd σ i) h := by
      intro s hs
      unfold wk_X6_wanes_38
      rw [vw s hs]
      exact br_c (fun c => fin _ (by rw [if_neg (Int32.not_lt.mpr c)])) (fun c => fin _ (by rw [if_pos (Int32.not_le.mp c)]))
    exact br_c (fun c => mid 0 (by rw [if_neg (Int32.not_lt.mpr c)])) (fun c => mid 1 (by rw [if_pos (Int32.not_le.mp c)]))
/-- but for head j in the rows heard and by nothing changes -/
def rm_T (j : Nat) (h h' : gw_H) : Prop := (∀ c, c ≠ 6 → c ≠ 7 → h' c = h c) ∧ ∀ c i, i ≠ j → h' c i = h c i
theorem rm_T.up {j c : Nat} {h h' : gw_H} {v : Int32} (t : rm_T j h h') (hc : c = 6 ∨ c = 7) : rm_T j h (gw_up h' c j v) :=
  ⟨fun k h1 h2 => by rw [gw_up_ne (by omega)]; exact t.1 k h1 h2, fun k i hi => by rw [gw_up_r, if_neg (fun z => hi z.2)]; exact t.2 k i hi⟩
theorem b_test0 {x : Int32} {d : Nat} (hd : d < 32) : ((x >>> (nI d &&& 31)) &&& 1) = 0 ↔ bt x d = false := by
  have h0 : bt (x >>> (nI d &&& 31)) 0 = bt x d := by rw [b_sshr d hd x (by omega)]; simp [hd]
  constructor
  · intro h
    have h2 := congrArg (fun z => bt z 0) h
    simp only [b_and, b_1, h0, b_0] at h2
    simpa using h2
  · intro h
    apply b_ext
    intro i hi
    rw [b_and, b_1, b_0]
    by_cases hi0 : i = 0
    · subst hi0; rw [h0, h]; rfl
    · simp [hi0]
def sp_hb (σ : Nat → Int32) : Nat → Int32
  | 0 => 0
  | k + 1 => sp_hb σ k ||| (if sp_hu σ k then 1 <<< (nI k &&& 31) else 0)
theorem sp_hbt (σ : Nat → Int32) : ∀ (n o : Nat), n < 32 → o < 32 → bt (sp_hb σ n) o = (decide (o < n) && sp_hu σ o) := by
  intro n
  induction n with
  | zero => intro o _ _; rw [sp_hb, b_0]; simp
  | succ n ih =>
    intro o hn ho
    rw [sp_hb, b_or, ih o (by omega) ho]
    by_cases e : o = n
    · subst e
      cases hu : sp_hu σ o with
      | false => simp [b_0]
      | true => simp [b_one o (by omega) ho]
    · have d : decide (o < n + 1) = decide (o < n) := by
        by_cases q : o < n
        · simp [q]; omega
        · simp [q]; omega
      rw [d]
      cases hu : sp_hu σ n with
      | false => simp [b_0]
      | true => simp [b_one n (by omega) ho, e]
theorem m_lisl (hW : sp_WF σ nd ns nh hr) {h0 : gw_H} {j : Nat} (hj : j < nh)
    (hq : ∀ h', rm_M h' σ → rm_T j h0 h' → h' 6 j = sp_he σ nd nh j → h' 7 j = (sp_ls σ nd j nh).2 → Q 0 h') :
    ∀ (n o : Nat) (h : gw_H), o ≤ nh → nh ≤ o + n → rm_M h σ → rm_T j h0 h → h 6 j = (sp_ls σ nd j o).1 → h 7 j = (sp_ls σ nd j o).2 → wl_X6_hears_18 (nI j) (sp_hb σ nh) Q (n + 1) (nI o) h := by
  have hW' := hW
  obtain ⟨⟨h8, h5, h6, -⟩, ⟨-, e2, e3, -⟩, -, -, -, hS, hH⟩ := hW
  have cj : (nI j).toNatClampNeg = j := nI_clamp (by omega)
  have vj : vp_in (nI j) 6 := vp_in_nI (by omega) (by omega)
  have ex : ∀ h, rm_M h σ → rm_T j h0 h → h 6 j = (sp_ls σ nd j nh).1 → h 7 j = (sp_ls σ nd j nh).2 → (vp_in (nI j) 6 ∧ (((h 6 (nI j).toNatClampNeg) < 0 → Q (0 : Int32) h) ∧ (¬ (h 6 (nI j).toNatClampNeg) < 0 → (vp_in (nI j) 6 ∧ (wp_X6_of h (h 6 (nI j).toNatClampNeg) (1 : Int32) (fun r_4 h_3 => (wp_X6_bar h_3 (nI j) (fun r_6 h_5 => ((r_4 ≤ r_6 → (wk_X6_hears_236 (nI j) (sp_hb σ nh) Q h_5)) ∧ (¬ r_4 ≤ r_6 → (vp_in (nI j) 6 ∧ (wp_X6_fresh h_5 (h_5 6 (nI j).toNatClampNeg) (fun r_10 h_9 => (wp_X6_at h_9 (nI j) (4 : Int32) (fun r_12 h_11 => ((r_12 < r_10 → Q (0 : Int32) h_11) ∧ (¬ r_12 < r_10 → (wk_X6_hears_236 (nI j) (sp_hb σ nh) Q h_11)))))))))))))))))) := by
    intro h hM hT v6 v7
    refine ⟨vj, ?_⟩
    rw [cj, v6]
    have no : sp_he σ nd nh j = -9 → wk_X6_hears_236 (nI j) (sp_hb σ nh) Q h := by
      intro e
      unfold wk_X6_hears_236
      refine ⟨vj, ?_⟩
      rw [cj]
      exact hq _ (hM.congr (gw_up_ne (by omega))) (hT.up (Or.inl rfl)) (by rw [gw_up_ee, e]) (by rw [gw_up_ne (by omega), v7])
    rcases sp_lsw hW' j nh (Nat.le_refl _) with e | ⟨i, g, h1, h2, h3, h4⟩
    · have he9 : sp_he σ nd nh j = -9 := by unfold sp_he; rw [e]; exact if_neg n9_neg
      rw [e]
      refine br_t n9_lt (hq h hM hT ?_ v7)
      rw [v6, e, he9]
    · have hv : sp_he σ nd nh j = if sp_sg σ i 1 ≤ sp_ba σ j ∨ sp_fr σ i ≤ sp_hd σ j 4 then -9 else nI i := by
        unfold sp_he
        rw [h3, if_pos (nI_pos' (by omega)), nI_clamp (by omega)]
      rw [h3]
      refine br_f (nI_pos (by omega)) ⟨vj, m_of hM i 1 rfl rfl (by omega) (by omega) (m_ba hM j rfl (by omega) ?_)⟩
      refine br_c (fun c => no (by rw [hv, if_pos (Or.inl c)])) (fun c => ⟨vj, ?_⟩)
      rw [v6, h3]
      refine m_fr hM i rfl (by omega) (m_at hM j 4 rfl rfl (by omega) (by omega) ?_)
      refine br_c (fun d => hq h hM hT ?_ v7) (fun d => no (by rw [hv, if_pos (Or.inr (Int32.not_lt.mp d))]))
      rw [v6, h3, hv, if_neg (fun z => z.elim c (fun w => by rw [Int32.le_iff_toInt_le] at w; rw [Int32.lt_iff_toInt_lt] at d; omega))]
  intro n
  induction n with
  | zero =>
    intro o h ho hn hM hT v6 v7
    have : o = nh := by omega
    subst this
    unfold wl_X6_hears_18
    exact br_t (by rw [hM 3 (by omega), e3]; exact nI_le (Nat.le_refl _) (by omega)) (ex h hM hT v6 v7)
  | succ n ih =>
    intro o h ho hn hM hT v6 v7
    unfold wl_X6_hears_18
    refine pk_le nh o (fun g => ?_) (fun g => ?_) ((hM 3 (by omega)).trans e3) rfl (by omega) (by omega)
    · have : o = nh := by omega
      subst this
      exact ex h hM hT v6 v7
    · have nx : ∀ h', rm_M h' σ → rm_T j h0 h' → h' 6 j = (sp_ls σ nd j (o + 1)).1 → h' 7 j = (sp_ls σ nd j (o + 1)).2 → wk_X6_hears_183 (nI j) (sp_hb σ nh) (wl_X6_hears_18 (nI j) (sp_hb σ nh) Q (n + 1)) Q (nI o) h' := by
        intro h' a1 a2 a3 a4
        unfold wk_X6_hears_183
        rw [nI_1]
        exact ih (o + 1) h' (by omega) (by omega) a1 a2 a3 a4
      have same : sp_ls σ nd j (o + 1) = sp_ls σ nd j o → wk_X6_hears_183 (nI j) (sp_hb σ nh) (wl_X6_hears_18 (nI j) (sp_hb σ nh) Q (n + 1)) Q (nI o) h := by
        intro q
        exact nx h hM hT (by rw [q]; exact v6) (by rw [q]; exact v7)
      rw [b_test0 (show o < 32 by omega), sp_hbt σ nh o (by omega) (by omega)]
      have hlt : decide (o < nh) = true := by simp [g]
      rw [hlt, Bool.true_and]
      refine br_c (fun c => same (sp_lsn (Or.inl c))) (fun c => ?_)
      have hu : sp_hu σ o = true := by simpa using c
      have hus := sp_hus hu
      refine m_ne hW' hM j o rfl rfl (by omega) (by omega) ?_
      cases hne : sp_ne σ nd j o with
      | false => exact br_t rfl (same (sp_lsn (Or.inr (Or.inl hne))))
      | true =>
        refine br_f (by decide) (m_at hM o 3 rfl rfl (by omega) (by omega) (m_at hM j 3 rfl rfl (by omega) (by omega) ⟨fun q => ?_, fun q => same (sp_lsn (Or.inr (Or.inr q)))⟩))
        obtain ⟨i, hi, ei⟩ : ∃ i, i < ns ∧ sp_hd σ o 3 = nI i := by
          rcases hW'.son g with e | e
          · rw [e] at hus; exact absurd hus n9_neg
          · exact e
        have el : sp_ls σ nd j (o + 1) = if (decide ((sp_ls σ nd j o).1 < 0) || (decide (sp_sg σ (sp_ls σ nd j o).1.toNatClampNeg 1 < sp_sg σ i 1) || (decide (sp_sg σ i 1 = sp_sg σ (sp_ls σ nd j o).1.toNatClampNeg 1) && decide (nI i < (sp_ls σ nd j o).1)))) = true then (nI i, nI o) else sp_ls σ nd j o := by
          rw [sp_ls, hu, hne]
          have : decide (sp_hd σ o 3 ≠ sp_hd σ j 3) = true := by simp [q]
          rw [this, Bool.true_and, Bool.true_and, Bool.true_and, ei, nI_clamp (by omega)]
        refine m_at hM o 3 rfl rfl (by omega) (by omega) ⟨vj, ?_⟩
        rw [cj, v6, ei]
        have better : sp_ls σ nd j (o + 1) = (nI i, nI o) → wk_X6_hears_133 (nI j) (sp_hb σ nh) (wl_X6_hears_18 (nI j) (sp_hb σ nh) Q (n + 1)) Q (nI o) (nI i) h := by
          intro z
          unfold wk_X6_hears_133 wk_X6_hears_138
          refine br_f (by decide) ?_
          unfold wk_X6_hears_160
          refine ⟨vj, br_f (by decide) ?_⟩
          unfold wk_X6_hears_182
          refine ⟨vj, ?_⟩
          rw [cj]
          refine nx _ ((hM.congr (gw_up_ne (by omega))).congr (gw_up_ne (by omega))) ((hT.up (Or.inr rfl)).up (Or.inl rfl)) ?_ ?_
          · rw [gw_up_ee, z]
          · rw [gw_up_ne (by omega), gw_up_ee, z]
        have worse : sp_ls σ nd j (o + 1) = sp_ls σ nd j o → wk_X6_hears_137 (nI j) (sp_hb σ nh) (wl_X6_hears_18 (nI j) (sp_hb σ nh) Q (n + 1)) Q (nI o) (nI i) h := by
          intro z
          unfold wk_X6_hears_137 wk_X6_hears_138
          refine br_t rfl ⟨vj, ?_⟩
          unfold wk_X6_hears_160
          refine ⟨vj, br_t rfl ⟨vj, ?_⟩⟩
          unfold wk_X6_hears_182
          refine ⟨vj, ?_⟩
          rw [cj]
          refine nx _ ((hM.congr (gw_up_ne (by omega))).congr (gw_up_ne (by omega))) ((hT.up (Or.inr rfl)).up (Or.inl rfl)) ?_ ?_
          · rw [gw_up_ee, gw_up_ne (by omega), z, v6]
          · rw [gw_up_ne (by omega), gw_up_ee, z, v7]
        rcases sp_lsw hW' j o (by omega) with e | ⟨k, g2, a1, a2, a3, a4⟩
        · rw [e]
          refine br_t n9_lt (better ?_)
          rw [el, e]; simp [n9_lt]
        · rw [a3]
          rw [a3] at el
          have hn : ¬ nI k < 0 := nI_pos (by omega)
          simp only [hn, decide_false, Bool.false_or, nI_clamp (show k < 2 ^ 31 by omega)] at el
          refine br_f hn (m_of hM i 1 rfl rfl (by omega) (by omega) ⟨vj, ?_⟩)
          rw [v6, a3]
          refine m_of hM k 1 rfl rfl (by omega) (by omega) (br_c (fun c => better ?_) (fun c => m_of hM i 1 rfl rfl (by omega) (by omega) ⟨vj, ?_⟩))
          · rw [el]; simp [c]
          · rw [v6, a3]
            refine m_of hM k 1 rfl rfl (by omega) (by omega) ⟨fun d => worse ?_, fun d => ⟨vj, ?_⟩⟩
            · rw [el]; simp [c, d, a3]
            · rw [v6, a3]
              refine br_c (fun w => worse ?_) (fun w => better ?_)
              · rw [el]
                have w' : nI k ≤ nI i := w
                have : ¬ nI i < nI k := Int32.not_lt.mpr w'
                simp [c, this, a3]
              · rw [el]
                have : nI i < nI k := Int32.not_le.mp w
                simp [d, this]
theorem m_lis (hW : sp_WF σ nd ns nh hr) (hM : rm_M h σ) {p t : Int32} (ht : t = sp_hb σ nh) (j : Nat) (hp : p = nI j) (hj : j < nh)
    (hq : ∀ h', rm_M h' σ → rm_T j h h' → h' 6 j = sp_he σ nd nh j → h' 7 j = (sp_ls σ nd j nh).2 → Q 0 h') : wp_X6_hears h p t Q := by
  subst hp ht
  have h6 := hW.1.2.2.1
  have vj : vp_in (nI j) 6 := vp_in_nI (by omega) (by omega)
  unfold wp_X6_hears
  refine ⟨vj, vj, nh + 1, ?_⟩
  rw [nI_clamp (by omega)]
  exact m_lisl hW hj hq nh 0 _ (Nat.zero_le _) (by omega) ((hM.congr (gw_up_ne (by omega))).congr (gw_up_ne (by omega))) (rm_T.up (rm_T.up ⟨fun _ _ _ => rfl, fun _ _ _ => rfl⟩ (Or.inl rfl)) (Or.inr rfl)) (by rw [gw_up_ne (by omega), gw_up_ee]; rfl) (by rw [gw_up_ee]; rfl)
end MHOUR
