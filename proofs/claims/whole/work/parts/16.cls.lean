/-! ## the class's side: an office at b in h is told by the row σ -/
def rc_C (b : Nat) (h : gw_H) (σ : Nat → Int32) (nd ns nh : Nat) : Prop :=
  (h (b + 1) 3 = σ 0 ∧ h (b + 5) 3 = σ 2 ∧ h (b + 9) 8 = σ 3 ∧ h b 3 = σ 4 ∧ h b 4 = σ 5) ∧
  (∀ d, d < nd → h (b + 2) d = sp_dr σ d 0 ∧ h (b + 3) d = sp_dr σ d 1 ∧ h (b + 4) d = if sp_op σ d then 1 else 0) ∧
  (∀ i, i < ns → h (b + 6) i = sp_sg σ i 0 ∧ h (b + 7) i = sp_sg σ i 1 ∧ h (b + 8) i = sp_sg σ i 2) ∧
  (∀ j, j < nh → h (b + 10) j = sp_hd σ j 0 ∧ h (b + 11) j = sp_hd σ j 1 ∧ h (b + 12) j = sp_hd σ j 2 ∧ h (b + 13) j = sp_hd σ j 3 ∧ h (b + 14) j = sp_hd σ j 4 ∧ h (b + 15) j = sp_hd σ j 5)
theorem rc_C.congr {b : Nat} {h h' : gw_H} {σ : Nat → Int32} {nd ns nh : Nat} (hR : rc_C b h σ nd ns nh) (hc : ∀ k, k < 16 → h' (b + k) = h (b + k)) : rc_C b h' σ nd ns nh := by
  unfold rc_C at hR ⊢
  have e0 := hc 0 (by omega)
  rw [Nat.add_zero] at e0
  rw [e0, hc 1 (by omega), hc 2 (by omega), hc 3 (by omega), hc 4 (by omega), hc 5 (by omega), hc 6 (by omega), hc 7 (by omega), hc 8 (by omega), hc 9 (by omega), hc 10 (by omega), hc 11 (by omega), hc 12 (by omega), hc 13 (by omega), hc 14 (by omega), hc 15 (by omega)]
  exact hR
/-! the smallest methods -/
section CLEAF
variable {h : gw_H} {Q : Int32 → gw_H → Prop}
theorem c_at {a n : Nat} {p : Int32} (j : Nat) (hp : p = nI j) (hj : j < n) (hn : n < 100) (hq : Q (h a j) h) : wp_X5_at h a n p Q := by
  subst hp
  unfold wp_X5_at
  refine ⟨fun c => absurd c (nI_pos (by omega)), fun _ => ⟨fun c => absurd c (nI_ge (b := n) hj (by omega)), fun _ => ⟨vp_in_nI hj (by omega), ?_⟩⟩⟩
  rw [nI_clamp (by omega)]; exact hq
theorem c_atn {a n : Nat} {p : Int32} (hp : p < 0) (hq : Q (-9) h) : wp_X5_at h a n p Q := by
  unfold wp_X5_at
  exact ⟨fun _ => hq, fun c => absurd hp c⟩
theorem c_put {a n : Nat} {p v : Int32} (j : Nat) (hp : p = nI j) (hj : j < n) (hn : n < 100) (hq : Q 0 (gw_up h a j v)) : wp_X5_put h a n p v Q := by
  subst hp
  unfold wp_X5_put
  refine ⟨fun c => absurd c (nI_pos (by omega)), fun _ => ⟨fun c => absurd c (nI_ge (b := n) hj (by omega)), fun _ => ⟨vp_in_nI hj (by omega), ?_⟩⟩⟩
  rw [nI_clamp (by omega)]; exact hq
theorem c_copy {a1 a2 n : Nat} (hn : n < 100) (hq : Q 0 (gw_st h a2 (va_cpy (h a1) (h a2) 0 0 n))) : wp_X5_copy h a1 n a2 n Q := by
  unfold wp_X5_copy
  have e : (if Int32.ofNat n < Int32.ofNat n then Int32.ofNat n else Int32.ofNat n) = nI n := by split <;> rfl
  rw [e, nI_clamp (by omega)]
  exact ⟨⟨nI_pos (by omega), Nat.le_refl _, Nat.le_refl _⟩, hq⟩
/-- a test of a place against a count -/
theorem c_rg {n : Nat} {x p : Int32} {A : Prop} {B : Prop} (hx : x = nI n) (hn : n < 100) (f : (p < 0 ∨ nI n ≤ p) → A) (g : ∀ j, j < n → p = nI j → B) : (p < 0 → A) ∧ (¬ p < 0 → ((x ≤ p → A) ∧ (¬ x ≤ p → B))) := by
  subst hx
  refine ⟨fun c => f (Or.inl c), fun c => ⟨fun d => f (Or.inr d), fun d => ?_⟩⟩
  rcases pk_ix p (n := n) (by omega) with q | q | ⟨j, hj, q⟩
  · exact absurd q c
  · exact absurd q d
  · exact g j hj q
theorem c_rm {p : Int32} (f : (p < 0 ∨ nI 5 ≤ p) → Q 0 h) (g : ∀ j, j < 5 → p = nI j → Q 1 h) : wp_X5_isRoom h p Q := by
  unfold wp_X5_isRoom
  exact c_rg (n := 5) rfl (by omega) f g
theorem c_dh {b n : Nat} {p : Int32} (hx : h (b + 1) 3 = nI n) (hn : n < 100) (f : (p < 0 ∨ nI n ≤ p) → Q 0 h) (g : ∀ j, j < n → p = nI j → Q 1 h) : wp_X0_has h b p Q := by
  unfold wp_X0_has
  exact c_rg hx hn f g
theorem c_sh {b n : Nat} {p : Int32} (hx : h (b + 5) 3 = nI n) (hn : n < 100) (f : (p < 0 ∨ nI n ≤ p) → Q 0 h) (g : ∀ j, j < n → p = nI j → Q 1 h) : wp_X3_has h b p Q := by
  unfold wp_X3_has
  exact c_rg hx hn f g
theorem c_hh {b n : Nat} {p : Int32} (hx : h (b + 9) 8 = nI n) (hn : n < 100) (f : (p < 0 ∨ nI n ≤ p) → Q 0 h) (g : ∀ j, j < n → p = nI j → Q 1 h) : wp_X1_has h b p Q := by
  unfold wp_X1_has
  exact c_rg hx hn f g
theorem c_nr {p : Int32} {n j : Nat} {A : Prop} (hp : p = nI j) (hj : j < n) (hn : n < 100) (h : p < 0 ∨ nI n ≤ p) : A := by
  subst hp
  rcases h with h | h
  · exact absurd h (nI_pos (by omega))
  · exact absurd h (nI_ge hj (by omega))
end CLEAF
/-! songs and heads of an office that is told by a row -/
section CSONG
variable {h : gw_H} {Q : Int32 → gw_H → Prop} {b : Nat} {σ : Nat → Int32} {nd ns nh hr : Nat}
theorem c_fr (hW : sp_WF σ nd ns nh hr) (hR : rc_C b h σ nd ns nh) {p : Int32} (i : Nat) (hp : p = nI i) (hi : i < ns) (hq : Q (sp_fr σ i) h) : wp_X3_fresh h b p Q := by
  obtain ⟨⟨-, h5, -⟩, -⟩ := hW
  obtain ⟨s0, s1, s2⟩ := hR.2.2.1 i hi
  unfold wp_X3_fresh
  refine c_at i hp (by omega) (by omega) (c_at i hp (by omega) (by omega) (c_at i hp (by omega) (by omega) ?_))
  rw [s0, s1, s2]
  unfold sp_fr at hq
  refine ⟨fun c => ?_, fun c => ⟨fun d => ?_, fun d => ?_⟩⟩
  · rw [if_pos c] at hq; exact hq
  · rw [if_neg c, if_pos d] at hq; exact hq
  · rw [if_neg c, if_neg d] at hq; exact hq
theorem c_fd (hW : sp_WF σ nd ns nh hr) (hR : rc_C b h σ nd ns nh) {p t : Int32} (ht : t = σ 4) (i : Nat) (hp : p = nI i) (hi : i < ns) (hq : Q (sp_fd σ i) h) : wp_X3_fading h b p t Q := by
  obtain ⟨⟨-, h5, -⟩, -, -, -, -, hS, -⟩ := hW
  obtain ⟨s0, -, -⟩ := hR.2.2.1 i hi
  obtain ⟨⟨k, hk, e⟩, -, -⟩ := hS i hi
  subst ht
  unfold wp_X3_fading
  refine c_at i hp (by omega) (by omega) ?_
  rw [s0]
  unfold sp_fd at hq
  rw [e] at hq ⊢
  have hk' : k = 0 ∨ k = 1 ∨ k = 2 ∨ k = 3 ∨ k = 4 ∨ k = 5 := by omega
  rcases hk' with rfl | rfl | rfl | rfl | rfl | rfl
  · refine br_t rfl ?_; exact hq
  · refine br_f (by decide) (br_t rfl ?_); exact hq
  · refine br_f (by decide) (br_f (by decide) (br_t rfl ?_)); exact hq
  · refine br_f (by decide) (br_f (by decide) (br_f (by decide) (br_t rfl ?_)))
    rw [if_neg (by decide), if_neg (by decide), if_pos (by decide)] at hq
    exact ⟨fun c => by rw [if_neg c] at hq; exact hq, fun c => by rw [if_pos c] at hq; exact hq⟩
  · refine br_f (by decide) (br_f (by decide) (br_f (by decide) (br_f (by decide) (br_t rfl ?_)))); exact hq
  · refine br_f (by decide) (br_f (by decide) (br_f (by decide) (br_f (by decide) (br_f (by decide) (br_t rfl ?_)))))
    rw [if_neg (by decide), if_neg (by decide), if_neg (by decide), if_neg (by decide), if_pos (by decide)] at hq
    exact ⟨fun c => by rw [if_neg c] at hq; exact hq, fun c => by rw [if_pos c] at hq; exact hq⟩
theorem c_hs (hW : sp_WF σ nd ns nh hr) (hR : rc_C b h σ nd ns nh) {p : Int32} (j : Nat) (hp : p = nI j) (hj : j < nh) (hq : Q (if 0 ≤ sp_hd σ j 3 then 1 else 0) h) : wp_X1_hasSong h b p Q := by
  obtain ⟨⟨-, h5, h6, -⟩, -, -, -, -, -, hH⟩ := hW
  have e := (hR.2.2.2 j hj).2.2.2.1
  unfold wp_X1_hasSong
  refine c_at j hp (by omega) (by omega) ?_
  rw [e]
  rcases (hH j hj).2.2.2.1 with ⟨g, -⟩ | ⟨i, hi, g⟩
  · rw [g] at hq ⊢; exact br_t rfl hq
  · rw [g] at hq ⊢
    rw [if_pos (nI_pos' (by omega))] at hq
    refine br_f (fun c => ?_) hq
    have := congrArg Int32.toInt c
    rw [nI_toInt (by omega)] at this
    have e9 : Int32.toInt (-9) = -9 := by decide
    omega
theorem c_ba (hW : sp_WF σ nd ns nh hr) (hR : rc_C b h σ nd ns nh) {p : Int32} (j : Nat) (hp : p = nI j) (hj : j < nh) (hq : Q (sp_ba σ j) h) : wp_X1_bar h b p Q := by
  obtain ⟨⟨-, h5, h6, -⟩, -⟩ := hW
  obtain ⟨s0, s1, s2, -⟩ := hR.2.2.2 j hj
  unfold wp_X1_bar
  refine c_at j hp (by omega) (by omega) ?_
  rw [s0]
  unfold sp_ba at hq
  refine br_c (fun c => ?_) (fun c => br_c (fun d => ?_) (fun d => br_c (fun e => ?_) (fun e => br_c (fun g => ?_) (fun g => ?_))))
  · rw [if_pos c] at hq; exact hq
  · rw [if_neg c, if_pos d] at hq; refine c_at j hp (by omega) (by omega) ?_; rw [s2]; exact hq
  · rw [if_neg c, if_neg d, if_pos e] at hq; refine c_at j hp (by omega) (by omega) ?_; rw [s2]; exact hq
  · rw [if_neg c, if_neg d, if_neg e, if_pos g] at hq; exact hq
  · rw [if_neg c, if_neg d, if_neg e, if_neg g] at hq; refine c_at j hp (by omega) (by omega) ?_; rw [s2]; exact hq
theorem c_n1 {x : Int32} (h : x = 0 ∨ x = 1) : narrow .boolean (.int x) = .int x := by rcases h with rfl | rfl <;> rfl
theorem c_hu (hW : sp_WF σ nd ns nh hr) (hR : rc_C b h σ nd ns nh) {p lo t : Int32} (hlo : lo = σ 5) (ht : t = σ 4) (j : Nat) (hp : p = nI j) (hj : j < nh) (hq : Q (if sp_hu σ j then 1 else 0) h) : wp_X1_hums h b p lo t Q := by
  have hW' := hW
  obtain ⟨⟨-, h5, h6, -⟩, -, ⟨l0, l1, l2, l3⟩, -, -, -, hH⟩ := hW
  obtain ⟨s0, -, -, s3, s4, -⟩ := hR.2.2.2 j hj
  obtain ⟨-, -, -, g3, -⟩ := hH j hj
  subst hlo; subst ht
  have dflt : (¬ sp_hd σ j 0 = 1) → (¬ sp_hd σ j 0 = 4) → (¬ sp_hd σ j 0 = 5) → wk_X1_hums_72 b p (σ 5) (σ 4) Q h := by
    intro n1 n4 n5
    unfold wk_X1_hums_72
    refine c_at j hp (by omega) (by omega) ?_
    rw [s4]
    unfold sp_hu at hq
    rw [if_neg n1, if_neg n4, if_neg n5] at hq
    rcases g3 with ⟨q1, q2⟩ | ⟨i, hi, q1⟩
    · rw [q2]; rw [q1, q2] at hq
      refine br_t ?_ (by simpa using hq)
      rw [l3]; exact nI_lt (a := 0) (by omega) (by omega)
    · rw [q1] at hq
      have : (0 : Int32) ≤ nI i := nI_pos' (by omega)
      simp only [this, decide_true, Bool.true_and, decide_eq_true_eq] at hq
      exact ⟨fun c => by rw [if_neg (Int32.not_le.mpr c)] at hq; exact hq, fun c => by rw [if_pos (Int32.not_lt.mp c)] at hq; exact hq⟩
  unfold wp_X1_hums
  refine c_at j hp (by omega) (by omega) ?_
  rw [s0]
  refine br_c (fun c => ?_) (fun c => br_c (fun d => dflt c (by rw [d]; decide) (by rw [d]; decide)) (fun d => br_c (fun e => dflt c (by rw [e]; decide) (by rw [e]; decide)) (fun e => br_c (fun g => ?_) (fun g => br_c (fun k => ?_) (fun k => dflt c g k)))))
  · refine c_hs hW' hR j hp hj ⟨c_n1 (by split <;> simp), ?_⟩
    unfold sp_hu at hq
    rw [if_pos c] at hq
    simpa using hq
  · unfold sp_hu at hq
    rw [if_neg c, if_pos g] at hq
    simpa using hq
  · refine c_hs hW' hR j hp hj ?_
    unfold sp_hu at hq
    rw [if_neg c, if_neg g, if_pos k] at hq
    by_cases w : 0 ≤ sp_hd σ j 3
    · rw [if_pos w]
      simp only [w, decide_true, Bool.true_and, decide_eq_true_eq] at hq
      exact br_f (by decide) ⟨fun c => by rw [if_neg c] at hq; exact hq, fun c => by rw [if_pos c] at hq; exact hq⟩
    · rw [if_neg w]
      simp only [w, decide_false, Bool.false_and] at hq
      exact br_t rfl (by simpa using hq)
end CSONG
