/-! an office becomes as another is -/
theorem gw_st_e {h : gw_H} {c : Nat} {f : Nat → Int32} : gw_st h c f c = f := by unfold gw_st; simp
theorem gw_st_n {h : gw_H} {c : Nat} {f : Nat → Int32} {c' : Nat} (hc : c' ≠ c) : gw_st h c f c' = h c' := by unfold gw_st; rw [if_neg hc]
theorem cpy0 {f g : Nat → Int32} {n j : Nat} (h : j < n) : va_cpy f g 0 0 n j = f j := by
  unfold va_cpy; rw [if_pos ⟨Nat.zero_le _, by omega⟩]; congr 1; omega
section CTAKE
variable {h : gw_H} {Q : Int32 → gw_H → Prop} {b b2 : Nat} {σ : Nat → Int32} {nd ns nh hr : Nat}
theorem c_ta0 (hd : b + 23 ≤ b2 ∨ b2 + 23 ≤ b) (hq : ∀ h', (∀ k i, 2 ≤ k → k ≤ 4 → i < 8 → h' (b + k) i = h (b2 + k) i) → h' (b + 1) 3 = h (b2 + 1) 3 → (∀ c, c ≠ b + 1 → c ≠ b + 2 → c ≠ b + 3 → c ≠ b + 4 → h' c = h c) → Q 0 h') : wp_X0_takeAs h b b2 Q := by
  unfold wp_X0_takeAs
  refine c_copy (by omega) (c_copy (by omega) (c_copy (by omega) (hq _ (fun k i h1 h2 h3 => ?_) ?_ (fun c c1 c2 c3 c4 => ?_))))
  · have hk : k = 2 ∨ k = 3 ∨ k = 4 := by omega
    rcases hk with rfl | rfl | rfl
    · rw [gw_up_ne (by omega), gw_st_n (by omega), gw_st_n (by omega), gw_st_e, cpy0 h3]
    · rw [gw_up_ne (by omega), gw_st_n (by omega), gw_st_e, cpy0 h3, gw_st_n (by omega)]
    · rw [gw_up_ne (by omega), gw_st_e, cpy0 h3, gw_st_n (by omega), gw_st_n (by omega)]
  · rw [gw_up_ee, gw_st_n (by omega), gw_st_n (by omega), gw_st_n (by omega)]
  · rw [gw_up_ne c1, gw_st_n c4, gw_st_n c3, gw_st_n c2]
theorem c_ta3 (hd : b + 23 ≤ b2 ∨ b2 + 23 ≤ b) (hq : ∀ h', (∀ k i, 6 ≤ k → k ≤ 8 → i < 5 → h' (b + k) i = h (b2 + k) i) → h' (b + 5) 3 = h (b2 + 5) 3 → (∀ c, c ≠ b + 5 → c ≠ b + 6 → c ≠ b + 7 → c ≠ b + 8 → h' c = h c) → Q 0 h') : wp_X3_takeAs h b b2 Q := by
  unfold wp_X3_takeAs
  refine c_copy (by omega) (c_copy (by omega) (c_copy (by omega) (hq _ (fun k i h1 h2 h3 => ?_) ?_ (fun c c1 c2 c3 c4 => ?_))))
  · have hk : k = 6 ∨ k = 7 ∨ k = 8 := by omega
    rcases hk with rfl | rfl | rfl
    · rw [gw_up_ne (by omega), gw_st_n (by omega), gw_st_n (by omega), gw_st_e, cpy0 h3]
    · rw [gw_up_ne (by omega), gw_st_n (by omega), gw_st_e, cpy0 h3, gw_st_n (by omega)]
    · rw [gw_up_ne (by omega), gw_st_e, cpy0 h3, gw_st_n (by omega), gw_st_n (by omega)]
  · rw [gw_up_ee, gw_st_n (by omega), gw_st_n (by omega), gw_st_n (by omega)]
  · rw [gw_up_ne c1, gw_st_n c4, gw_st_n c3, gw_st_n c2]
/-- who has a song has it from himself -/
theorem c_ta1l (h6 : nh ≤ 6) (f : Nat → Int32) (hf : ∀ j, j < nh → f j = -9 ∨ ∃ i, i < 100 ∧ f j = nI i) {h0 : gw_H}
    (hq : ∀ h', (∀ j, j < nh → (0 ≤ f j → h' (b + 16) j = nI j ∧ h' (b + 17) j = nI j) ∧ (f j = -9 → h' (b + 16) j = -9 ∧ h' (b + 17) j = -9)) → (∀ c, c ≠ b + 16 → c ≠ b + 17 → h' c = h0 c) → Q 0 h') :
    ∀ (n k : Nat) (h : gw_H), k ≤ nh → nh ≤ k + n → h (b + 9) 8 = nI nh → (∀ j, j < nh → h (b + 13) j = f j) → (∀ j, j < k → (0 ≤ f j → h (b + 16) j = nI j ∧ h (b + 17) j = nI j) ∧ (f j = -9 → h (b + 16) j = -9 ∧ h (b + 17) j = -9)) → (∀ c, c ≠ b + 16 → c ≠ b + 17 → h c = h0 c) → wl_X1_takeAs_76 b b2 Q (n + 1) (nI k) h := by
  intro n
  induction n with
  | zero =>
    intro k h hk hn r3 hv hI hF
    have : k = nh := by omega
    subst this
    unfold wl_X1_takeAs_76
    exact br_t (by rw [r3]; exact nI_le (Nat.le_refl _) (by omega)) (hq h hI hF)
  | succ n ih =>
    intro k h hk hn r3 hv hI hF
    unfold wl_X1_takeAs_76
    refine pk_le nh k (fun g => ?_) (fun g => ?_) r3 rfl (by omega) (by omega)
    · have : k = nh := by omega
      subst this
      exact hq h hI hF
    · have hs : ∀ (h' : gw_H) (R : Int32 → gw_H → Prop), h' (b + 13) k = f k → (f k = -9 → R 0 h') → (0 ≤ f k → R 1 h') → wp_X1_hasSong h' b (nI k) R := by
        intro h' R e a1 a2
        unfold wp_X1_hasSong
        refine c_at k rfl (by omega) (by omega) ?_
        rw [e]
        rcases hf k g with w | ⟨i, hi, w⟩
        · exact br_t w (a1 w)
        · exact br_f (by rw [w]; exact n9_ne (by omega)) (a2 (by rw [w]; exact nI_pos' (by omega)))
      have t2 : ∀ s (h' : gw_H), s = (if 0 ≤ f k then nI k else -9) → h' (b + 9) 8 = nI nh → (∀ j, j < nh → h' (b + 13) j = f j) → (∀ j, j < k → (0 ≤ f j → h' (b + 16) j = nI j ∧ h' (b + 17) j = nI j) ∧ (f j = -9 → h' (b + 16) j = -9 ∧ h' (b + 17) j = -9)) → h' (b + 16) k = (if 0 ≤ f k then nI k else -9) → (∀ c, c ≠ b + 16 → c ≠ b + 17 → h' c = h0 c) → wk_X1_takeAs_125 b b2 (wl_X1_takeAs_76 b b2 Q (n + 1)) Q (nI k) s (nI k) h' := by
        intro s h' z1 z2 z3 z4 z5 z6
        unfold wk_X1_takeAs_125
        refine c_put k rfl (by omega) (by omega) ?_
        rw [nI_1]
        refine ih (k + 1) _ (by omega) (by omega) (by rw [gw_up_ne (by omega), z2]) (fun j hj => by rw [gw_up_ne (by omega)]; exact z3 j hj) (fun j hj => ?_) (fun c a1 a2 => by rw [gw_up_ne a2]; exact z6 c a1 a2)
        by_cases e : j = k
        · subst e
          rw [gw_up_ne (by omega), gw_up_ee, z5, z1]
          refine ⟨fun w => by rw [if_pos w]; exact ⟨rfl, rfl⟩, fun w => by rw [if_neg (by rw [w]; exact n9_neg)]; exact ⟨rfl, rfl⟩⟩
        · rw [gw_up_ne (by omega), gw_up_en e]
          exact z4 j (by omega)
      have t1 : ∀ s, s = (if 0 ≤ f k then nI k else -9) → wk_X1_takeAs_103 b b2 (wl_X1_takeAs_76 b b2 Q (n + 1)) Q (nI k) s (nI k) h := by
        intro s z
        unfold wk_X1_takeAs_103
        refine c_put k rfl (by omega) (by omega) ?_
        have a2 : gw_up h (b + 16) k s (b + 9) 8 = nI nh := by rw [gw_up_ne (by omega), r3]
        have a3 : ∀ j, j < nh → gw_up h (b + 16) k s (b + 13) j = f j := fun j hj => by rw [gw_up_ne (by omega)]; exact hv j hj
        have a4 : ∀ j, j < k → (0 ≤ f j → gw_up h (b + 16) k s (b + 16) j = nI j ∧ gw_up h (b + 16) k s (b + 17) j = nI j) ∧ (f j = -9 → gw_up h (b + 16) k s (b + 16) j = -9 ∧ gw_up h (b + 16) k s (b + 17) j = -9) := fun j hj => by
          rw [gw_up_en (by omega), gw_up_ne (by omega)]; exact hI j hj
        have a5 : gw_up h (b + 16) k s (b + 16) k = (if 0 ≤ f k then nI k else -9) := by rw [gw_up_ee]; exact z
        have a6 : ∀ c, c ≠ b + 16 → c ≠ b + 17 → gw_up h (b + 16) k s c = h0 c := fun c q1 q2 => by rw [gw_up_ne q1]; exact hF c q1 q2
        exact hs _ _ (a3 k g) (fun w => br_t rfl (t2 _ _ (by rw [w]; rfl) a2 a3 a4 a5 a6)) (fun w => br_f (by decide) (t2 _ _ (by rw [if_pos w]) a2 a3 a4 a5 a6))
      exact hs h _ (hv k g) (fun w => br_t rfl (t1 _ (by rw [w]; rfl))) (fun w => br_f (by decide) (t1 _ (by rw [if_pos w])))
theorem c_ta1 (h6 : nh ≤ 6) (hd : b + 23 ≤ b2 ∨ b2 + 23 ≤ b) (e9 : h (b2 + 9) 8 = nI nh) (hf : ∀ j, j < nh → h (b2 + 13) j = -9 ∨ ∃ i, i < 100 ∧ h (b2 + 13) j = nI i)
    (hq : ∀ h', (∀ k i, 10 ≤ k → k ≤ 15 → i < 6 → h' (b + k) i = h (b2 + k) i) → h' (b + 9) 8 = h (b2 + 9) 8 → (∀ j, j < nh → (0 ≤ h (b2 + 13) j → h' (b + 16) j = nI j ∧ h' (b + 17) j = nI j) ∧ (h (b2 + 13) j = -9 → h' (b + 16) j = -9 ∧ h' (b + 17) j = -9)) → (∀ c, (∀ k, 9 ≤ k → k ≤ 17 → c ≠ b + k) → h' c = h c) → Q 0 h') : wp_X1_takeAs h b b2 Q := by
  unfold wp_X1_takeAs
  refine c_copy (by omega) (c_copy (by omega) (c_copy (by omega) (c_copy (by omega) (c_copy (by omega) (c_copy (by omega) ⟨nh + 1, ?_⟩)))))
  refine c_ta1l h6 (fun j => h (b2 + 13) j) hf (fun h' a1 a2 => hq h' (fun k i h1 h2 h3 => ?_) ?_ a1 (fun c hc => ?_)) nh 0 _ (Nat.zero_le _) (by omega) ?_ (fun j hj => ?_) (fun j hj => by omega) (fun _ _ _ => rfl)
  · rw [a2 _ (by omega) (by omega)]
    have hk : k = 10 ∨ k = 11 ∨ k = 12 ∨ k = 13 ∨ k = 14 ∨ k = 15 := by omega
    rcases hk with rfl | rfl | rfl | rfl | rfl | rfl
    · rw [gw_up_ne (by omega), gw_st_n (by omega), gw_st_n (by omega), gw_st_n (by omega), gw_st_n (by omega), gw_st_n (by omega), gw_st_e, cpy0 h3]
    · rw [gw_up_ne (by omega), gw_st_n (by omega), gw_st_n (by omega), gw_st_n (by omega), gw_st_n (by omega), gw_st_e, cpy0 h3, gw_st_n (by omega)]
    · rw [gw_up_ne (by omega), gw_st_n (by omega), gw_st_n (by omega), gw_st_n (by omega), gw_st_e, cpy0 h3, gw_st_n (by omega), gw_st_n (by omega)]
    · rw [gw_up_ne (by omega), gw_st_n (by omega), gw_st_n (by omega), gw_st_e, cpy0 h3, gw_st_n (by omega), gw_st_n (by omega), gw_st_n (by omega)]
    · rw [gw_up_ne (by omega), gw_st_n (by omega), gw_st_e, cpy0 h3, gw_st_n (by omega), gw_st_n (by omega), gw_st_n (by omega), gw_st_n (by omega)]
    · rw [gw_up_ne (by omega), gw_st_e, cpy0 h3, gw_st_n (by omega), gw_st_n (by omega), gw_st_n (by omega), gw_st_n (by omega), gw_st_n (by omega)]
  · rw [a2 _ (by omega) (by omega), gw_up_ee, gw_st_n (by omega), gw_st_n (by omega), gw_st_n (by omega), gw_st_n (by omega), gw_st_n (by omega), gw_st_n (by omega)]
  · rw [a2 c (hc 16 (by omega) (by omega)) (hc 17 (by omega) (by omega)), gw_up_ne (hc 9 (by omega) (by omega)), gw_st_n (hc 15 (by omega) (by omega)), gw_st_n (hc 14 (by omega) (by omega)), gw_st_n (hc 13 (by omega) (by omega)), gw_st_n (hc 12 (by omega) (by omega)), gw_st_n (hc 11 (by omega) (by omega)), gw_st_n (hc 10 (by omega) (by omega))]
  · rw [gw_up_ee, gw_st_n (by omega), gw_st_n (by omega), gw_st_n (by omega), gw_st_n (by omega), gw_st_n (by omega), gw_st_n (by omega), e9]
  · rw [gw_up_ne (by omega), gw_st_n (by omega), gw_st_n (by omega), gw_st_e, cpy0 (by omega), gw_st_n (by omega), gw_st_n (by omega), gw_st_n (by omega)]
theorem c_ta (hW : sp_WF σ nd ns nh hr) (hR : rc_C b2 h σ nd ns nh) (hd : b + 23 ≤ b2 ∨ b2 + 23 ≤ b)
    (hq : ∀ h', rc_C b h' σ nd ns nh → rc_G b h' σ nh (fun j => nI j) (fun j => nI j) → rc_N b h' σ nh → rc_F b h h' → Q 0 h') : wp_X2_takeAs h b b2 Q := by
  obtain ⟨⟨a0, a1, a2, a3, a4⟩, hD, hS, hH⟩ := hR
  have h8 := hW.1.1
  have h5 := hW.1.2.1
  have h6 := hW.1.2.2.1
  unfold wp_X2_takeAs
  refine c_ta0 hd (fun h1 d1 d2 d3 => c_ta3 hd (fun h2 s1 s2 s3 => ?_))
  have k2 : ∀ k, 9 ≤ k → k < 23 → h2 (b2 + k) = h (b2 + k) := fun k q1 q2 => by
    rw [s3 _ (by omega) (by omega) (by omega) (by omega), d3 _ (by omega) (by omega) (by omega) (by omega)]
  refine c_ta1 h6 hd (by rw [k2 9 (by omega) (by omega), a2, hW.2.1.2.2.1]) (fun j hj => ?_) (fun h3 t1 t2 t3 t4 => ?_)
  · rw [k2 13 (by omega) (by omega), (hH j hj).2.2.2.1]
    rcases hW.son hj with e | ⟨i, hi, e⟩
    · exact Or.inl e
    · exact Or.inr ⟨i, by omega, e⟩
  · have z0 : h3 b2 = h b2 := by
      rw [t4 b2 (fun k q1 q2 => by omega), s3 _ (by omega) (by omega) (by omega) (by omega), d3 _ (by omega) (by omega) (by omega) (by omega)]
    refine hq _ ⟨⟨?_, ?_, ?_, ?_, ?_⟩, fun d hd' => ?_, fun i hi => ?_, fun j hj => ?_⟩ (fun j hj w => ?_) (fun j hj w => ?_) (fun c hc => ?_)
    · rw [gw_up_ne (by omega), gw_up_ne (by omega), t4 _ (fun k q1 q2 => by omega), s3 _ (by omega) (by omega) (by omega) (by omega), d2, a0]
    · rw [gw_up_ne (by omega), gw_up_ne (by omega), t4 _ (fun k q1 q2 => by omega), s2, d3 _ (by omega) (by omega) (by omega) (by omega), a1]
    · rw [gw_up_ne (by omega), gw_up_ne (by omega), t2, k2 9 (by omega) (by omega), a2]
    · rw [gw_up_en (by omega), gw_up_ee, z0, a3]
    · rw [gw_up_ee, gw_up_ne (by omega), z0, a4]
    · have w : ∀ k, 2 ≤ k → k ≤ 4 → h3 (b + k) d = h (b2 + k) d := fun k q1 q2 => by
        rw [t4 _ (fun m q3 q4 => by omega), s3 _ (by omega) (by omega) (by omega) (by omega), d1 k d q1 q2 (by omega)]
      rw [gw_up_ne (by omega), gw_up_ne (by omega), gw_up_ne (by omega), gw_up_ne (by omega), gw_up_ne (by omega), gw_up_ne (by omega), w 2 (by omega) (by omega), w 3 (by omega) (by omega), w 4 (by omega) (by omega)]
      exact hD d hd'
    · have w : ∀ k, 6 ≤ k → k ≤ 8 → h3 (b + k) i = h (b2 + k) i := fun k q1 q2 => by
        rw [t4 _ (fun m q3 q4 => by omega), s1 k i q1 q2 (by omega), d3 _ (by omega) (by omega) (by omega) (by omega)]
      rw [gw_up_ne (by omega), gw_up_ne (by omega), gw_up_ne (by omega), gw_up_ne (by omega), gw_up_ne (by omega), gw_up_ne (by omega), w 6 (by omega) (by omega), w 7 (by omega) (by omega), w 8 (by omega) (by omega)]
      exact hS i hi
    · have w : ∀ k, 10 ≤ k → k ≤ 15 → h3 (b + k) j = h (b2 + k) j := fun k q1 q2 => by
        rw [t1 k j q1 q2 (by omega), k2 k (by omega) (by omega)]
      rw [gw_up_ne (by omega), gw_up_ne (by omega), gw_up_ne (by omega), gw_up_ne (by omega), gw_up_ne (by omega), gw_up_ne (by omega), gw_up_ne (by omega), gw_up_ne (by omega), gw_up_ne (by omega), gw_up_ne (by omega), gw_up_ne (by omega), gw_up_ne (by omega),
        w 10 (by omega) (by omega), w 11 (by omega) (by omega), w 12 (by omega) (by omega), w 13 (by omega) (by omega), w 14 (by omega) (by omega), w 15 (by omega) (by omega)]
      exact hH j hj
    · rw [gw_up_ne (by omega), gw_up_ne (by omega), gw_up_ne (by omega), gw_up_ne (by omega)]
      refine (t3 j hj).1 ?_
      rw [k2 13 (by omega) (by omega), (hH j hj).2.2.2.1]; exact w
    · rw [gw_up_ne (by omega), gw_up_ne (by omega), gw_up_ne (by omega), gw_up_ne (by omega)]
      refine (t3 j hj).2 ?_
      rw [k2 13 (by omega) (by omega), (hH j hj).2.2.2.1]; exact w
    · have hc0 : c ≠ b := hc 0 (by omega)
      rw [gw_up_ne hc0, gw_up_ne hc0, t4 c (fun k q1 q2 => hc k (by omega)), s3 c (hc 5 (by omega)) (hc 6 (by omega)) (hc 7 (by omega)) (hc 8 (by omega)), d3 c (hc 1 (by omega)) (hc 2 (by omega)) (hc 3 (by omega)) (hc 4 (by omega))]
end CTAKE
