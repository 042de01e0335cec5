/-! ## the reference's side: its row s tells the office -/
def rm_M (h : gw_H) (σ : Nat → Int32) : Prop := ∀ i, i < 73 → h 2 i = σ i
section MLEAF
variable {h : gw_H} {Q : Int32 → gw_H → Prop} {σ : Nat → Int32} {nd ns nh hr : Nat}
theorem m_i2 (a b c d : Nat) : (nI a + nI b * nI c) + nI d = nI (a + b * c + d) := by rw [pk_mul, nI_add, nI_add]
theorem m_at (hM : rm_M h σ) {p1 p2 : Int32} (j k : Nat) (hp1 : p1 = nI j) (hp2 : p2 = nI k) (hj : j < 6) (hk : k < 6) (hq : Q (sp_hd σ j k) h) : wp_X6_at h p1 p2 Q := by
  subst hp1 hp2
  unfold wp_X6_at
  rw [show (((37 : Int32) + ((6 : Int32) * nI j)) + nI k) = nI (37 + 6 * j + k) from m_i2 37 6 j k]
  refine ⟨vp_in_nI (by omega) (by omega), ?_⟩
  rw [nI_clamp (by omega), hM _ (by omega)]; exact hq
theorem m_of (hM : rm_M h σ) {p1 p2 : Int32} (i k : Nat) (hp1 : p1 = nI i) (hp2 : p2 = nI k) (hi : i < 5) (hk : k < 3) (hq : Q (sp_sg σ i k) h) : wp_X6_of h p1 p2 Q := by
  subst hp1 hp2
  unfold wp_X6_of
  rw [show (((22 : Int32) + ((3 : Int32) * nI i)) + nI k) = nI (22 + 3 * i + k) from m_i2 22 3 i k]
  refine ⟨vp_in_nI (by omega) (by omega), ?_⟩
  rw [nI_clamp (by omega), hM _ (by omega)]; exact hq
theorem m_pu {p1 p2 v : Int32} (j k : Nat) (hp1 : p1 = nI j) (hp2 : p2 = nI k) (hj : j < 6) (hk : k < 6) (hq : Q 0 (gw_up h 2 (37 + 6 * j + k) v)) : wp_X6_puts h p1 p2 v Q := by
  subst hp1 hp2
  unfold wp_X6_puts
  rw [show (((37 : Int32) + ((6 : Int32) * nI j)) + nI k) = nI (37 + 6 * j + k) from m_i2 37 6 j k]
  refine ⟨vp_in_nI (by omega) (by omega), ?_⟩
  rw [nI_clamp (by omega)]; exact hq
theorem rm_M.up (hM : rm_M h σ) (i : Nat) (v : Int32) : rm_M (gw_up h 2 i v) (upd σ i v) := by
  intro k hk
  rw [gw_up_r]
  unfold upd
  by_cases e : k = i
  · subst e; simp
  · simp [e, hM k hk]
theorem rm_M.congr {h' : gw_H} (hM : rm_M h σ) (hc : h' 2 = h 2) : rm_M h' σ := fun i hi => by rw [hc]; exact hM i hi
theorem m_fr (hM : rm_M h σ) {p : Int32} (i : Nat) (hp : p = nI i) (hi : i < 5) (hq : Q (sp_fr σ i) h) : wp_X6_fresh h p Q := by
  unfold wp_X6_fresh
  refine m_of hM i 1 hp rfl hi (by omega) (m_of hM i 2 hp rfl hi (by omega) (m_of hM i 0 hp rfl hi (by omega) ?_))
  unfold sp_fr at hq
  refine ⟨fun c => ⟨fun d => ?_, fun d => ?_⟩, fun c => ?_⟩
  · rw [if_neg c, if_neg d] at hq; exact hq
  · rw [if_neg c, if_pos d] at hq; exact hq
  · rw [if_pos c] at hq; exact hq
theorem m_rem2 {k : Nat} (hk : k < 1000000) : nI k - nI k / 2 * 2 = 0 ∨ nI k - nI k / 2 * 2 = 1 := by
  rw [show (2 : Int32) = nI 2 from rfl, pk_rem (by omega) (by omega) (by omega)]
  have : k % 2 = 0 ∨ k % 2 = 1 := by omega
  rcases this with e | e <;> rw [e]
  · exact Or.inl rfl
  · exact Or.inr rfl
theorem m_fd (hW : sp_WF σ nd ns nh hr) (hM : rm_M h σ) {p : Int32} (i : Nat) (hp : p = nI i) (hi : i < ns) (hq : Q (sp_fd σ i) h) : wp_X6_fades h p Q := by
  have h5 := hW.1.2.1
  have e4 := hW.2.1.2.2.2
  have hh := hW.1.2.2.2
  unfold wp_X6_fades
  refine m_of hM i 0 hp rfl (by omega) (by omega) ?_
  rw [hM 4 (by omega)]
  unfold sp_fd at hq
  refine br_c (fun c => ?_) (fun c => br_c (fun d => ?_) (fun d => br_c (fun e => ?_) (fun e => br_c (fun g => ?_) (fun g => br_c (fun k => ?_) (fun k => ?_)))))
  · rw [if_pos c] at hq; exact hq
  · rw [if_neg c, if_pos d] at hq; exact hq
  · rw [if_neg c, if_neg d, if_pos e] at hq
    exact ⟨fun x => by rw [if_neg x] at hq; exact hq, fun x => by rw [if_pos x] at hq; exact hq⟩
  · rw [if_neg c, if_neg d, if_neg e, if_pos g] at hq; exact hq
  · rw [if_neg c, if_neg d, if_neg e, if_neg g, if_pos k] at hq
    rw [e4] at hq ⊢
    rcases m_rem2 (k := hr) (by omega) with x | x
    · rw [x] at hq ⊢; exact bn_f (by decide) hq
    · rw [x] at hq ⊢; exact bn_t (by decide) hq
  · rw [if_neg c, if_neg d, if_neg e, if_neg g, if_neg k] at hq; exact hq
theorem m_ba (hM : rm_M h σ) {p : Int32} (j : Nat) (hp : p = nI j) (hj : j < 6) (hq : Q (sp_ba σ j) h) : wp_X6_bar h p Q := by
  unfold wp_X6_bar
  refine m_at hM j 2 hp rfl hj (by omega) (m_at hM j 0 hp rfl hj (by omega) ?_)
  unfold sp_ba at hq
  refine br_c (fun c => ?_) (fun c => br_c (fun d => ?_) (fun d => br_c (fun e => ?_) (fun e => br_c (fun g => ?_) (fun g => ?_))))
  · rw [if_pos c] at hq; exact hq
  · rw [if_neg c, if_pos d] at hq; exact hq
  · rw [if_neg c, if_neg d, if_pos e] at hq; exact hq
  · rw [if_neg c, if_neg d, if_neg e, if_pos g] at hq; exact hq
  · rw [if_neg c, if_neg d, if_neg e, if_neg g] at hq; exact hq
theorem m_hu (hM : rm_M h σ) {p : Int32} (j : Nat) (hp : p = nI j) (hj : j < 6) (hq : Q (if sp_hu σ j then 1 else 0) h) : wp_X6_hums h p Q := by
  have dflt : (0 ≤ sp_hd σ j 3) → (¬ sp_hd σ j 0 = 1) → (¬ sp_hd σ j 0 = 4) → (¬ sp_hd σ j 0 = 5) → wk_X6_hums_73 p Q h := by
    intro n0 n1 n4 n5
    unfold wk_X6_hums_73
    refine m_at hM j 4 hp rfl hj (by omega) ?_
    rw [hM 5 (by omega)]
    unfold sp_hu at hq
    rw [if_neg n1, if_neg n4, if_neg n5] at hq
    simp only [n0, decide_true, Bool.true_and, decide_eq_true_eq] at hq
    exact ⟨fun c => by rw [if_neg (Int32.not_le.mpr c)] at hq; exact hq, fun c => by rw [if_pos (Int32.not_lt.mp c)] at hq; exact hq⟩
  unfold wp_X6_hums
  refine m_at hM j 3 hp rfl hj (by omega) ?_
  refine br_c (fun w => m_at hM j 0 hp rfl hj (by omega) ?_) (fun w => ?_)
  · refine br_c (fun c => ?_) (fun c => br_c (fun d => dflt w c (by rw [d]; decide) (by rw [d]; decide)) (fun d => br_c (fun e => dflt w c (by rw [e]; decide) (by rw [e]; decide)) (fun e => br_c (fun g => ?_) (fun g => br_c (fun k => ?_) (fun k => dflt w c g k)))))
    · unfold sp_hu at hq
      rw [if_pos c] at hq
      simpa [w] using hq
    · unfold sp_hu at hq
      rw [if_neg c, if_pos g] at hq
      simpa using hq
    · unfold sp_hu at hq
      rw [if_neg c, if_neg g, if_pos k] at hq
      rw [hM 4 (by omega)]
      simp only [w, decide_true, Bool.true_and, decide_eq_true_eq] at hq
      exact ⟨fun c => by rw [if_neg c] at hq; exact hq, fun c => by rw [if_pos c] at hq; exact hq⟩
  · unfold sp_hu at hq
    simp only [w, decide_false, Bool.false_and] at hq
    simpa using hq
end MLEAF
section MNEAR
variable {h : gw_H} {Q : Int32 → gw_H → Prop} {σ : Nat → Int32} {nd ns nh hr : Nat}
theorem m_nel (hW : sp_WF σ nd ns nh hr) (hM : rm_M h σ) {a b : Nat} {x y : Int32} (hq : Q (if sp_dn σ x y nd then 1 else 0) h) :
    ∀ (n d : Nat), d ≤ nd → nd ≤ d + n → sp_dn σ x y d = false → wl_X6_areNear_33 (nI a) (nI b) Q (n + 1) x y (nI d) h := by
  obtain ⟨⟨h8, -⟩, ⟨e0, -⟩, -⟩ := hW
  have r0 : h 2 0 = nI nd := by rw [hM 0 (by omega), e0]
  intro n
  induction n with
  | zero =>
    intro d hd hn hf
    have : d = nd := by omega
    subst this
    unfold wl_X6_areNear_33
    rw [hf] at hq
    exact br_t (by rw [r0]; exact nI_le (Nat.le_refl _) (by omega)) hq
  | succ n ih =>
    intro d hd hn hf
    unfold wl_X6_areNear_33
    refine pk_le nd d (fun g => ?_) (fun g => ?_) r0 rfl (by omega) (by omega)
    · have : d = nd := by omega
      subst this
      rw [hf] at hq; exact hq
    · have i0 : ((6 : Int32) + ((2 : Int32) * nI d)) = nI (6 + 2 * d) := by rw [show (6 : Int32) = nI 6 from rfl, show (2 : Int32) = nI 2 from rfl, pk_mul, nI_add]
      have i1 : (nI (6 + 2 * d) + (1 : Int32)) = nI (6 + 2 * d + 1) := nI_1 _
      rw [i0, i1]
      refine ⟨vp_in_nI (by omega) (by omega), vp_in_nI (by omega) (by omega), ?_⟩
      rw [nI_clamp (by omega), nI_clamp (by omega), hM (6 + 2 * d) (by omega), hM (6 + 2 * d + 1) (by omega), hM 1 (by omega), b_test (show d < 32 by omega)]
      have hs : sp_dn σ x y (d + 1) = (sp_op σ d && ((decide (sp_dr σ d 0 = x) && decide (sp_dr σ d 1 = y)) || (decide (sp_dr σ d 0 = y) && decide (sp_dr σ d 1 = x)))) := by rw [sp_dn, hf, Bool.false_or]
      have v0 : sp_dr σ d 0 = σ (6 + 2 * d) := rfl
      have v1 : sp_dr σ d 1 = σ (6 + 2 * d + 1) := rfl
      rw [v0, v1] at hs
      have nx : sp_dn σ x y (d + 1) = false → wk_X6_areNear_117 (nI a) (nI b) (wl_X6_areNear_33 (nI a) (nI b) Q (n + 1)) Q x y (nI d) h := by
        intro z
        unfold wk_X6_areNear_117
        rw [nI_1]
        exact ih (d + 1) (by omega) (by omega) z
      have yes : sp_dn σ x y (d + 1) = true → Q 1 h := by
        intro z
        have : ∀ m, d + 1 ≤ m → sp_dn σ x y m = true := by
          intro m hm
          induction m with
          | zero => omega
          | succ m ihm =>
            by_cases e : m = d
            · subst e; exact z
            · rw [sp_dn, ihm (by omega), Bool.true_or]
        rw [this nd (by omega)] at hq; exact hq
      refine ⟨fun c => nx ?_, fun c => ?_⟩
      · have : sp_op σ d = false := by unfold sp_op; simpa using c
        rw [hs, this, Bool.false_and]
      · have ho : sp_op σ d = true := c
        rw [ho, Bool.true_and] at hs
        have c2 : (¬ (σ (6 + 2 * d) = x ∧ σ (6 + 2 * d + 1) = y)) → wk_X6_areNear_102 (nI a) (nI b) (wl_X6_areNear_33 (nI a) (nI b) Q (n + 1)) Q x y (nI d) (σ (6 + 2 * d)) (σ (6 + 2 * d + 1)) h := by
          intro w
          unfold wk_X6_areNear_102
          refine ⟨fun c => nx ?_, fun c => ⟨fun e => nx ?_, fun e => yes ?_⟩⟩
          · rw [hs]; simp [c]; exact fun q1 q2 => w ⟨q1, q2⟩
          · rw [hs]; simp [e]; exact fun q1 q2 => w ⟨q1, q2⟩
          · rw [hs]; simp [c, e]
        refine ⟨fun c => c2 (fun z => c z.1), fun c => ⟨fun e => yes ?_, fun e => c2 (fun z => e z.2)⟩⟩
        rw [hs]; simp [c, e]
theorem m_ne (hW : sp_WF σ nd ns nh hr) (hM : rm_M h σ) {p1 p2 : Int32} (a b : Nat) (hp1 : p1 = nI a) (hp2 : p2 = nI b) (ha : a < 6) (hb : b < 6) (hq : Q (if sp_ne σ nd a b then 1 else 0) h) : wp_X6_areNear h p1 p2 Q := by
  subst hp1 hp2
  unfold wp_X6_areNear
  refine m_at hM a 1 rfl rfl ha (by omega) (m_at hM b 1 rfl rfl hb (by omega) ?_)
  unfold sp_ne at hq
  refine pk_ne a b (fun c => ?_) (fun c => ?_) rfl rfl (by omega) (by omega)
  · have c' : decide (a ≠ b) = true := by simp [c]
    rw [c', Bool.true_and] at hq
    refine ⟨fun d => ?_, fun d => ?_⟩
    · have d' : decide (sp_hd σ a 1 = sp_hd σ b 1) = false := by simp [d]
      rw [d', Bool.false_or] at hq
      exact ⟨nd + 1, m_nel hW hM hq nd 0 (Nat.zero_le _) (by omega) rfl⟩
    · have d' : decide (sp_hd σ a 1 = sp_hd σ b 1) = true := by simp [d]
      rw [d', Bool.true_or] at hq
      exact hq
  · have c' : decide (a ≠ b) = false := by simp [c]
    rw [c', Bool.false_and] at hq
    exact hq
end MNEAR
