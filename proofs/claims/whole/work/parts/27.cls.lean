/-! what the class's calls share -/
def sp_out (v lo hi : Int32) : Int32 := if lo ≤ v then (if v ≤ hi then 0 else -6) else -4
theorem sp_out3 (v lo hi : Int32) : sp_out v lo hi = 0 ∨ sp_out v lo hi = -6 ∨ sp_out v lo hi = -4 := by
  unfold sp_out; split
  · split
    · exact Or.inl rfl
    · exact Or.inr (Or.inl rfl)
  · exact Or.inr (Or.inr rfl)
theorem sp_outn {v : Int32} {lo hi : Nat} {L U : Int32} (hL : L = nI lo) (hU : U = nI hi) (hh : hi < 1000) (hl : lo < 1000) (h : sp_out v L U = 0) : ∃ n, lo ≤ n ∧ n ≤ hi ∧ v = nI n := by
  subst hL hU
  unfold sp_out at h
  by_cases a : nI lo ≤ v
  · rw [if_pos a] at h
    by_cases c : v ≤ nI hi
    · have a' := Int32.le_iff_toInt_le.mp a
      have c' := Int32.le_iff_toInt_le.mp c
      rw [nI_toInt (by omega)] at a' c'
      obtain ⟨j, hj, e⟩ := nI_of (x := v) (fun z => by
        have z' := Int32.lt_iff_toInt_lt.mp z
        have e0 : Int32.toInt 0 = 0 := by decide
        omega)
      rw [e, nI_toInt hj] at a' c'
      exact ⟨j, by omega, by omega, e⟩
    · rw [if_neg c] at h; exact absurd h (by decide)
  · rw [if_neg a] at h; exact absurd h (by decide)
section CSHARE
variable {h : gw_H} {Q : Int32 → gw_H → Prop} {b : Nat} {σ : Nat → Int32} {nd ns nh hr : Nat}
theorem c_out {p lo hi : Int32} (hq : Q (sp_out p lo hi) h) : wp_X5_outside h p lo hi Q := by
  unfold wp_X5_outside
  unfold sp_out at hq
  refine br_c (fun c => ?_) (fun c => ?_)
  · rw [if_pos c] at hq
    exact ⟨fun d => by rw [if_pos d] at hq; exact hq, fun d => by rw [if_neg d] at hq; exact hq⟩
  · rw [if_neg c] at hq; exact hq
theorem c_nei {p : Int32} (f : p = 0 ∨ p = 1 → Q 0 h) (g : ¬ p = 0 → ¬ p = 1 → Q 1 h) : wp_X5_isNeither h p Q := by
  unfold wp_X5_isNeither
  exact br_c (fun c => f (Or.inl c)) (fun c => br_c (fun d => f (Or.inr d)) (fun d => g c d))
theorem c_ref {p : Int32} (k : Nat) (hp : -p = nI k) (hk : k < 7) (hq : Q p (gw_up h 73 k (h 73 k + 1))) : wp_X5_refuse h p Q := by
  unfold wp_X5_refuse
  exact c_at k hp hk (by omega) (c_put k hp hk (by omega) hq)
theorem c_hah (e9 : h 10 8 = nI nh) (h6 : nh ≤ 6) {p1 p2 : Int32} (f : (p1 < 0 ∨ nI nh ≤ p1) → Q (-1) h) (g : ∀ j, j < nh → p1 = nI j → Q (sp_out p2 0 60) h) : wp_X5_headAndHours h p1 p2 Q := by
  unfold wp_X5_headAndHours
  exact c_hh (b := 1) e9 (by omega) (fun c => br_t rfl (f c)) (fun j hj e => br_f (by decide) (c_out (g j hj e)))
theorem c_sah (e5 : h 6 3 = nI ns) (h5 : ns ≤ 5) {p1 p2 : Int32} (f : ¬ p1 = -1 → (p1 < 0 ∨ nI ns ≤ p1) → Q (-1) h) (g : (p1 = -1 ∨ ∃ j, j < ns ∧ p1 = nI j) → Q (sp_out p2 0 60) h) : wp_X5_songAndHours h p1 p2 Q := by
  unfold wp_X5_songAndHours
  refine br_c (fun c => ?_) (fun c => c_sh (b := 1) e5 (by omega) (fun d => br_t rfl (f c d)) (fun j hj e => br_f (by decide) ?_))
  · unfold wk_X5_songAndHours_19; exact c_out (g (Or.inl c))
  · unfold wk_X5_songAndHours_19; exact c_out (g (Or.inr ⟨j, hj, e⟩))
theorem c_hvl (hW : sp_WF σ nd ns nh hr) (hR : rc_C b h σ nd ns nh) {p : Int32} (hp : p = -1 ∨ 0 ≤ p) (hq : Q (sp_hv σ p nh) h) :
    ∀ (n k : Nat), k ≤ nh → nh ≤ k + n → wl_X1_holders_4 b p Q (n + 1) (sp_hv σ p k) (nI k) h := by
  have h6 := hW.1.2.2.1
  have r3 : h (b + 9) 8 = nI nh := by rw [hR.1.2.2.1, hW.2.1.2.2.1]
  intro n
  induction n with
  | zero =>
    intro k hk hn
    have : k = nh := by omega
    subst this
    unfold wl_X1_holders_4
    exact br_t (by rw [r3]; exact nI_le (Nat.le_refl _) (by omega)) hq
  | succ n ih =>
    intro k hk hn
    unfold wl_X1_holders_4
    refine pk_le nh k (fun g => ?_) (fun g => ?_) r3 rfl (by omega) (by omega)
    · have : k = nh := by omega
      subst this
      exact hq
    · have nx : ∀ s, sp_hv σ p (k + 1) = sp_hv σ p k + s → wk_X1_holders_51 b p (wl_X1_holders_4 b p Q (n + 1)) Q (nI k) s (sp_hv σ p k) h := by
        intro s hs
        unfold wk_X1_holders_51
        rw [← hs, nI_1]
        exact ih (k + 1) (by omega) (by omega)
      refine ⟨fun c => ?_, fun c => ?_⟩
      · have hp0 : ¬ p < 0 := by
          rcases hp with e | e
          · exact absurd e c
          · exact Int32.not_lt.mpr e
        refine c_at k rfl (by omega) (by omega) ?_
        rw [(hR.2.2.2 k g).2.2.2.1]
        exact ⟨fun d => nx 0 (by rw [sp_hv, if_neg hp0, if_neg d]), fun d => nx 1 (by rw [sp_hv, if_neg hp0, if_pos d])⟩
      · refine c_hs hW hR k rfl g ?_
        have hp0 : p < 0 := by rw [c]; decide
        by_cases w : 0 ≤ sp_hd σ k 3
        · rw [if_pos w]
          exact br_f (by decide) (nx 1 (by rw [sp_hv, if_pos hp0, if_pos w]))
        · rw [if_neg w]
          exact br_t rfl (nx 0 (by rw [sp_hv, if_pos hp0, if_neg w]))
theorem c_hv (hW : sp_WF σ nd ns nh hr) (hR : rc_C b h σ nd ns nh) {p : Int32} (hp : p = -1 ∨ 0 ≤ p) (hq : Q (sp_hv σ p nh) h) : wp_X1_holders h b p Q := by
  unfold wp_X1_holders
  exact ⟨nh + 1, c_hvl hW hR hp hq nh 0 (Nat.zero_le _) (by omega)⟩
theorem c_im (hW : sp_WF σ nd ns nh hr) (hR : rc_C 1 h σ nd ns nh) (hh : hr ≤ 999) {N : Nat} (hN : N ≤ 60) {p : Int32} (hp : p = nI N)
    (hq : ∀ h', rc_C 24 h' (sp_hn nd nh N σ) nd ns nh → rc_G 24 h' (sp_hn nd nh N σ) nh (sp_Gn nd nh N σ (fun j => nI j)) (sp_On nd nh N σ (fun j => nI j)) → rc_N 24 h' (sp_hn nd nh N σ) nh → rc_F 24 h h' → Q 0 h') : wp_X5_imagine h p Q := by
  unfold wp_X5_imagine
  exact c_ta hW hR (by omega) (fun h1 a1 a2 a4 a3 => c_phs hW hN (by omega) hp a1 a2 a4 (fun h2 b1 b2 b4 b3 => hq h2 b1 b2 b4 (a3.trans b3)))
theorem c_gv (hW : sp_WF σ nd ns nh hr) (hR : rc_C b h σ nd ns nh) {p s : Int32} (j : Nat) (hp : p = nI j) (hj : j < nh) (f : (s < 0 ∨ nI ns ≤ s) → ∀ h', rc_C b h' (sp_gt σ j (-9)) nd ns nh → rc_F b h h' → Q 0 h') (g : ∀ i, i < ns → s = nI i → ∀ h', rc_C b h' (sp_gt σ j (nI i)) nd ns nh → rc_F b h h' → Q 0 h') : wp_X2_give h b p s Q := by
  have h8 := hW.1.1
  have h5 := hW.1.2.1
  have h6 := hW.1.2.2.1
  have r2 : h (b + 5) 3 = nI ns := by rw [hR.1.2.1, hW.2.1.2.1]
  unfold wp_X2_give
  refine c_sh r2 (by omega) (fun c => br_t rfl (c_lo j hp (by omega) (f c _ ?_ rc_T.of4.F))) (fun i hi e => br_f (by decide) (c_fr hW hR i e hi (c_rc j hp (by omega) (g i hi e _ ?_ rc_T.of4.F))))
  · rw [sp_gtn]; exact hR.gt4 h8 h5 j
  · rw [sp_gts j (by omega), e]; exact hR.gt4 h8 h5 j
/-- what a remedy makes of a head -/
def sp_tr (σ : Nat → Int32) (j : Nat) (w : Int32) : Nat → Int32 := if w = 3 then σ else if w = 2 then upd σ (37 + 6 * j + 5) 3 else sp_sv σ j (if w = 0 then sp_hd σ j 4 / 2 else sp_hd σ j 4 - 4)
theorem sp_4 {s : Nat} (hs : s ≤ 60) : nI s - 4 < 60 ∧ nI s - 4 ≤ 60 := by
  have e : (nI s - 4).toInt = (s : Int) - 4 := by
    rw [show (4 : Int32) = nI 4 from rfl]; exact pk_sub_toInt (by omega) (by omega)
  have e60 : Int32.toInt 60 = 60 := by decide
  constructor
  · rw [Int32.lt_iff_toInt_lt, e]; omega
  · rw [Int32.le_iff_toInt_le, e]; omega
theorem sp_WF.tr (hW : sp_WF σ nd ns nh hr) (j : Nat) (hj : j < nh) {w : Int32} (hs : 0 ≤ sp_hd σ j 3 ∨ w = 2 ∨ w = 3) : sp_WF (sp_tr σ j w) nd ns nh hr := by
  obtain ⟨s, s1, s2⟩ := (hW.hw hj).2.2.2.2.1
  unfold sp_tr
  split
  · exact hW
  · rename_i c3
    split
    · exact hW.gm j (fun _ => ⟨3, by omega, rfl⟩)
    · rename_i c2
      have hs' : 0 ≤ sp_hd σ j 3 := by
        rcases hs with q | q | q
        · exact q
        · exact absurd q c2
        · exact absurd q c3
      refine hW.sv j (fun _ => hs') ?_
      rw [s2]
      split
      · rw [show (2 : Int32) = nI 2 from rfl, pk_div (by omega) (by omega) (by omega)]
        exact nI_le (b := 60) (by omega) (by omega)
      · exact (sp_4 s1).2
theorem c_tr (hW : sp_WF σ nd ns nh hr) (hR : rc_C b h σ nd ns nh) {p w : Int32} (j : Nat) (hp : p = nI j) (hj : j < nh) (hw : w = 0 ∨ w = 1 ∨ w = 2 ∨ w = 3)
    (hq : ∀ h', rc_C b h' (sp_tr σ j w) nd ns nh → rc_F b h h' → Q 0 h') : wp_X1_treat h b p w Q := by
  have h8 := hW.1.1
  have h5 := hW.1.2.1
  have h6 := hW.1.2.2.1
  obtain ⟨s, s1, s2⟩ := (hW.hw hj).2.2.2.2.1
  unfold wp_X1_treat
  rcases hw with rfl | rfl | rfl | rfl
  · refine br_t rfl (c_at j hp (by omega) (by omega) (c_at j hp (by omega) (by omega) ?_))
    rw [(hR.2.2.2 j hj).2.2.2.2.1]
    refine c_wk hR h8 h5 h6 j hp hj (fun h' a1 a2 a3 _ => hq h' ?_ a2.F)
    have e : (if sp_hd σ j 4 - (sp_hd σ j 4 - sp_hd σ j 4 / 2) < 60 then sp_hd σ j 4 - (sp_hd σ j 4 - sp_hd σ j 4 / 2) else 60) = sp_hd σ j 4 / 2 := by
      rw [s2, show (2 : Int32) = nI 2 from rfl, pk_div (by omega) (by omega) (by omega), pk_sub (by omega), pk_sub (by omega), show s - (s - s / 2) = s / 2 by omega]
      exact if_pos (nI_lt (a := s / 2) (b := 60) (by omega) (by omega))
    rw [e] at a1
    unfold sp_tr
    rw [if_neg (by decide), if_neg (by decide), if_pos rfl]
    exact a1
  · refine br_f (by decide) (br_t rfl ?_)
    refine c_wk hR h8 h5 h6 j hp hj (fun h' a1 a2 a3 _ => hq h' ?_ a2.F)
    have e : (if sp_hd σ j 4 - 4 < 60 then sp_hd σ j 4 - 4 else 60) = sp_hd σ j 4 - 4 := by
      rw [s2, if_pos (sp_4 s1).1]
    rw [e] at a1
    unfold sp_tr
    rw [if_neg (by decide), if_neg (by decide), if_neg (by decide)]
    exact a1
  · refine br_f (by decide) (br_f (by decide) (br_t rfl (c_put j hp (by omega) (by omega) (hq _ ?_ (rc_F.up 15 (by omega) rfl)))))
    unfold sp_tr
    rw [if_neg (by decide), if_pos rfl]
    exact hR.hput h8 h5 (k := 5) (by omega) rfl j 3
  · refine br_f (by decide) (br_f (by decide) (br_f (by decide) (hq h ?_ rc_F.refl)))
    unfold sp_tr
    rw [if_pos rfl]
    exact hR
end CSHARE
