section TX5
variable {h : gw_H} {Q : Int32 → gw_H → Prop} {n : Nat} {w : Nat → Nat} {s : Nat} {σ : Nat → Int32} {nd ns nh hr : Nat}
theorem m_comh {t0 t1 t2 : Nat} (hM1 : rm_M h σ) (e3 : σ 3 = nI nh) (h6 : nh < 6) (d0 : h 12 0 = nI t0) (d1 : h 12 1 = nI t1) (d2 : h 12 2 = nI t2) {p : Int32}
    (hq : ∀ h', rm_M h' (sp_ah σ nh t0 t1 t2) → (∀ c, c ≠ 2 → h' c = h c) → Q 1 h') : wl_X6_comes_245 p Q 4 (nI 0) h := by
  have v3 : ∀ k, k < 3 → vp_in (nI k) 3 := fun k hk => vp_in_nI hk (by omega)
  have st : ∀ h', h' 2 3 = nI nh → ∀ i x, i < 6 → gw_up h' 2 (37 + 6 * nh + i) x 2 3 = nI nh := fun h' e i x hi => by rw [gw_up_en (by omega)]; exact e
  have s0 : h 2 3 = nI nh := (hM1 3 (by omega)).trans e3
  unfold wl_X6_comes_245
  refine br_f (by decide) ⟨v3 0 (by omega), ?_⟩
  rw [nI_clamp (n := 0) (by omega), d0]
  refine m_pu nh 0 s0 rfl (by omega) (by omega) ?_
  have M1 := hM1.up (37 + 6 * nh + 0) (nI t0)
  have s1 := st h s0 0 (nI t0) (by omega)
  have c1 : ∀ c, c ≠ 2 → gw_up h 2 (37 + 6 * nh + 0) (nI t0) c = h c := fun c hc => gw_up_ne hc
  generalize gw_up h 2 (37 + 6 * nh + 0) (nI t0) = h1 at *
  unfold wl_X6_comes_245
  rw [nI_1]
  refine br_f (by decide) ⟨v3 1 (by omega), ?_⟩
  rw [nI_clamp (n := 0 + 1) (by omega), c1 12 (by omega), d1]
  refine m_pu nh 1 s1 rfl (by omega) (by omega) ?_
  have M2 := M1.up (37 + 6 * nh + 1) (nI t1)
  have s2 := st h1 s1 1 (nI t1) (by omega)
  have c2 : ∀ c, c ≠ 2 → gw_up h1 2 (37 + 6 * nh + 1) (nI t1) c = h c := fun c hc => by rw [gw_up_ne hc, c1 c hc]
  generalize gw_up h1 2 (37 + 6 * nh + 1) (nI t1) = h2 at *
  unfold wl_X6_comes_245
  rw [nI_1]
  refine br_f (by decide) ⟨v3 2 (by omega), ?_⟩
  rw [nI_clamp (n := 0 + 1 + 1) (by omega), c2 12 (by omega), d2]
  refine m_pu nh 2 s2 rfl (by omega) (by omega) ?_
  have M3 := M2.up (37 + 6 * nh + 2) (nI t2)
  have s3 := st h2 s2 2 (nI t2) (by omega)
  have c3 : ∀ c, c ≠ 2 → gw_up h2 2 (37 + 6 * nh + 2) (nI t2) c = h c := fun c hc => by rw [gw_up_ne hc, c2 c hc]
  generalize gw_up h2 2 (37 + 6 * nh + 2) (nI t2) = h3 at *
  unfold wl_X6_comes_245
  rw [nI_1]
  refine br_t (by decide) (m_pu nh 3 s3 rfl (by omega) (by omega) (m_pu nh 4 (st h3 s3 3 _ (by omega)) rfl (by omega) (by omega) (m_pu nh 5 (st _ (st h3 s3 3 _ (by omega)) 4 _ (by omega)) rfl (by omega) (by omega) ?_)))
  have s6 := st _ (st _ (st h3 s3 3 (-9) (by omega)) 4 0 (by omega)) 5 0 (by omega)
  rw [s6, nI_1]
  exact hq _ ((((M3.up _ _).up _ _).up _ _).up _ _) (fun c hc => by rw [gw_up_ne hc, gw_up_ne hc, gw_up_ne hc, gw_up_ne hc, c3 c hc])
theorem m_coms {t0 t1 t2 : Nat} (hM1 : rm_M h σ) (e2 : σ 2 = nI ns) (h5 : ns < 5) (d0 : h 12 0 = nI t0) (d1 : h 12 1 = nI t1) (d2 : h 12 2 = nI t2) {p : Int32}
    (hq : ∀ h', rm_M h' (sp_as σ ns (nI t0) (nI t1) (nI t2)) → (∀ c, c ≠ 2 → h' c = h c) → Q 1 h') : wl_X6_comes_174 p Q 4 (nI 0) h := by
  have v3 : ∀ k, k < 3 → vp_in (nI k) 3 := fun k hk => vp_in_nI hk (by omega)
  have ix : ∀ k, (22 + 3 * nI ns) + nI k = nI (22 + 3 * ns + k) := fun k => by rw [show (3 : Int32) = nI 3 from rfl, show (22 : Int32) = nI 22 from rfl, pk_mul, nI_add, nI_add]
  have s0 : h 2 2 = nI ns := (hM1 2 (by omega)).trans e2
  unfold wl_X6_comes_174
  rw [s0, ix 0, nI_clamp (n := 0) (by omega), nI_clamp (n := 22 + 3 * ns + 0) (by omega), d0]
  refine br_f (by decide) ⟨v3 0 (by omega), vp_in_nI (by omega) (by omega), ?_⟩
  have M1 := hM1.up (22 + 3 * ns + 0) (nI t0)
  have s1 : gw_up h 2 (22 + 3 * ns + 0) (nI t0) 2 2 = nI ns := by rw [gw_up_en (by omega)]; exact s0
  have c1 : ∀ c, c ≠ 2 → gw_up h 2 (22 + 3 * ns + 0) (nI t0) c = h c := fun c hc => gw_up_ne hc
  generalize gw_up h 2 (22 + 3 * ns + 0) (nI t0) = h1 at *
  unfold wl_X6_comes_174
  rw [nI_1, s1, ix (0 + 1), nI_clamp (n := 0 + 1) (by omega), nI_clamp (n := 22 + 3 * ns + (0 + 1)) (by omega), c1 12 (by omega), d1]
  refine br_f (by decide) ⟨v3 1 (by omega), vp_in_nI (by omega) (by omega), ?_⟩
  have M2 := M1.up (22 + 3 * ns + (0 + 1)) (nI t1)
  have s2 : gw_up h1 2 (22 + 3 * ns + (0 + 1)) (nI t1) 2 2 = nI ns := by rw [gw_up_en (by omega)]; exact s1
  have c2 : ∀ c, c ≠ 2 → gw_up h1 2 (22 + 3 * ns + (0 + 1)) (nI t1) c = h c := fun c hc => by rw [gw_up_ne hc, c1 c hc]
  generalize gw_up h1 2 (22 + 3 * ns + (0 + 1)) (nI t1) = h2 at *
  unfold wl_X6_comes_174
  rw [nI_1, s2, ix (0 + 1 + 1), nI_clamp (n := 0 + 1 + 1) (by omega), nI_clamp (n := 22 + 3 * ns + (0 + 1 + 1)) (by omega), c2 12 (by omega), d2]
  refine br_f (by decide) ⟨v3 2 (by omega), vp_in_nI (by omega) (by omega), ?_⟩
  have M3 := M2.up (22 + 3 * ns + (0 + 1 + 1)) (nI t2)
  have s3 : gw_up h2 2 (22 + 3 * ns + (0 + 1 + 1)) (nI t2) 2 2 = nI ns := by rw [gw_up_en (by omega)]; exact s2
  have c3 : ∀ c, c ≠ 2 → gw_up h2 2 (22 + 3 * ns + (0 + 1 + 1)) (nI t2) c = h c := fun c hc => by rw [gw_up_ne hc, c2 c hc]
  generalize gw_up h2 2 (22 + 3 * ns + (0 + 1 + 1)) (nI t2) = h3 at *
  unfold wl_X6_comes_174
  rw [s3, nI_1, nI_1]
  exact br_t (by decide) (hq _ (M3.up _ _) (fun c hc => by rw [gw_up_ne hc, c3 c hc]))
theorem m_co (hW : sp_WF σ nd ns nh hr) (hM1 : rm_M h σ) (hi : tx_is n w s) (hb : w s < 256) (ht : ∀ k, k < tx_tn w s → h 12 k = nI (tx_t n w s k)) {p : Int32} (e : p = nI (w s))
    (f : tx_ob n w s (σ, nd, ns, nh) = none → Q 0 h) (g : ∀ y, tx_ob n w s (σ, nd, ns, nh) = some y → ∀ h', rm_M h' y.1 → (∀ c, c ≠ 2 → h' c = h c) → Q 1 h') : wp_X6_comes h p Q := by
  have h8 := hW.1.1
  have h5 := hW.1.2.1
  have h6 := hW.1.2.2.1
  obtain ⟨x0, x2, x3, -⟩ := hW.2.1
  subst e
  unfold wp_X6_comes
  unfold tx_ob at f g
  unfold tx_is at hi
  refine pk_eq (w s) 100 (fun z => ?_) (fun z => ?_) rfl rfl (by omega) (by omega)
  · rw [if_pos z] at f g
    obtain ⟨-, d1, d2⟩ : _ ∧ tx_d n w (s + 1) = true ∧ tx_d n w (s + 2) = true := by
      rcases hi with q | q | q | q
      · exact q
      · omega
      · omega
      · omega
    have b1 := tx_d_w d1
    have b2 := tx_d_w d2
    have tn : tx_tn w s = 2 := by unfold tx_tn; rw [if_neg (by omega), if_neg (by omega), if_neg (by omega)]
    have e0 : tx_t n w s 0 = w (s + 1) - 48 := by unfold tx_t; rw [if_neg (by omega), if_neg (by omega), if_neg (by omega)]
    have e1 : tx_t n w s 1 = w (s + 2) - 48 := by unfold tx_t; rw [if_neg (by omega), if_neg (by omega), if_neg (by omega)]
    have q0 := ht 0 (by omega)
    have q1 := ht 1 (by omega)
    have a0 : tx_t n w s 0 < 10 := by omega
    have a1 : tx_t n w s 1 < 10 := by omega
    generalize tx_t n w s 0 = t0 at *
    generalize tx_t n w s 1 = t1 at *
    have m0 : h 2 0 = nI nd := (hM1 0 (by omega)).trans x0
    rw [q0, q1]
    refine pk_le 5 t0 (fun y => f (if_pos (Or.inr (Or.inl y)))) (fun y => pk_le 5 t1 (fun y1 => f (if_pos (Or.inr (Or.inr (Or.inl y1))))) (fun y1 => pk_eq t0 t1 (fun y2 => f (if_pos (Or.inr (Or.inr (Or.inr y2))))) (fun y2 => pk_ne nd 8 (fun y3 => ?_) (fun y3 => f (if_pos (Or.inl y3))) m0 rfl (by omega) (by omega)) rfl rfl (by omega) (by omega)) rfl rfl (by omega) (by omega)) rfl rfl (by omega) (by omega)
    have i0 : 6 + 2 * nI nd = nI (6 + 2 * nd) := by rw [show (2 : Int32) = nI 2 from rfl, show (6 : Int32) = nI 6 from rfl, pk_mul, nI_add]
    rw [m0, i0, nI_clamp (n := 6 + 2 * nd) (by omega), gw_up_en (c := 2) (i := 6 + 2 * nd) (j := 0) (by omega), m0, i0, nI_1, nI_clamp (n := 6 + 2 * nd + 1) (by omega)]
    rw [gw_up_en (c := 2) (i := 6 + 2 * nd + 1) (j := 1) (by omega), gw_up_en (c := 2) (i := 6 + 2 * nd) (j := 1) (by omega), hM1 1 (by omega)]
    rw [gw_up_en (c := 2) (i := 6 + 2 * nd + 1) (j := 0) (by omega), gw_up_en (c := 2) (i := 6 + 2 * nd) (j := 0) (by omega), m0]
    rw [gw_up_en (c := 2) (i := 1) (j := 0) (by omega), gw_up_en (c := 2) (i := 6 + 2 * nd + 1) (j := 0) (by omega), gw_up_en (c := 2) (i := 6 + 2 * nd) (j := 0) (by omega), m0, nI_1]
    refine ⟨vp_in_nI (by omega) (by omega), vp_in_nI (by omega) (by omega), g (sp_ad σ nd t0 t1, nd + 1, ns, nh) (if_neg (by show ¬ (nd = 8 ∨ 5 ≤ t0 ∨ 5 ≤ t1 ∨ t0 = t1); omega)) _ ((((hM1.up _ _).up _ _).up _ _).up _ _) (fun c hc => by rw [gw_up_ne hc, gw_up_ne hc, gw_up_ne hc, gw_up_ne hc])⟩
  · rw [if_neg z] at f g
    refine pk_eq (w s) 103 (fun z => ?_) (fun z => ?_) rfl rfl (by omega) (by omega)
    · rw [if_pos z] at f g
      obtain ⟨-, d1, d2⟩ : _ ∧ tx_d n w (s + 1) = true ∧ tx_d n w (s + 2) = true := by
        rcases hi with q | q | q | q
        · exact q
        · omega
        · omega
        · omega
      have b1 := tx_d_w d1
      have b2 := tx_d_w d2
      have tn : tx_tn w s = 2 := by unfold tx_tn; rw [if_neg (by omega), if_neg (by omega), if_neg (by omega)]
      have e0 : tx_t n w s 0 = w (s + 1) - 48 := by unfold tx_t; rw [if_neg (by omega), if_neg (by omega), if_neg (by omega)]
      have e1 : tx_t n w s 1 = w (s + 2) - 48 := by unfold tx_t; rw [if_neg (by omega), if_neg (by omega), if_neg (by omega)]
      have q0 := ht 0 (by omega)
      have q1 := ht 1 (by omega)
      have a0 : tx_t n w s 0 < 10 := by omega
      have a1 : tx_t n w s 1 < 10 := by omega
      generalize tx_t n w s 0 = t0 at *
      generalize tx_t n w s 1 = t1 at *
      rw [q0, q1]
      refine m_ih hW hM1 (fun q => br_t rfl (f (if_neg (fun y => c_nr rfl y.1 (by omega) q)))) (fun j hj ej => br_f rr_dec1 (m_is hW hM1 (fun q => bn_t rfl (f (if_neg (fun y => c_nr rfl y.2 (by omega) q)))) (fun i hi' ei => bn_f rr_dec1 ?_)))
      have ej' := (nI_eq (by omega) (by omega)).mp ej
      have ei' := (nI_eq (by omega) (by omega)).mp ei
      refine m_gt hW hM1 t0 rfl (by omega) (Or.inr (Or.inr ⟨t1, by omega, rfl⟩)) (fun h' a1 a2 => g _ (if_pos ⟨by rw [ej']; exact hj, by rw [ei']; exact hi'⟩) h' a1 a2)
    · rw [if_neg z] at f g
      refine pk_eq (w s) 104 (fun z => ?_) (fun z => ?_) rfl rfl (by omega) (by omega)
      · rw [if_pos z] at f g
        obtain ⟨-, k1, k6, d2, d3⟩ : _ ∧ s + 1 < n ∧ tx_kH (w (s + 1)) < 6 ∧ tx_d n w (s + 2) = true ∧ tx_d n w (s + 3) = true := by
          rcases hi with q | q | q | q
          · omega
          · exact q
          · omega
          · omega
        have b2 := tx_d_w d2
        have tn : tx_tn w s = 3 := by unfold tx_tn; rw [if_pos z]
        have e1 : tx_t n w s 1 = w (s + 2) - 48 := by unfold tx_t; rw [if_pos z, if_neg (by omega)]
        have q0 := ht 0 (by omega)
        have q1 := ht 1 (by omega)
        have q2 := ht 2 (by omega)
        have a1 : tx_t n w s 1 < 10 := by omega
        rw [q1]
        refine pk_le 5 (tx_t n w s 1) (fun y => f (if_pos (Or.inr y))) (fun y => pk_ne nh 6 (fun y1 => ?_) (fun y1 => f (if_pos (Or.inl y1))) ((hM1 3 (by omega)).trans x3) rfl (by omega) (by omega)) rfl rfl (by omega) (by omega)
        exact ⟨4, m_comh hM1 x3 (by omega) q0 q1 q2 (fun h' a1 a2 => g (sp_ah σ nh (tx_t n w s 0) (tx_t n w s 1) (tx_t n w s 2), nd, ns, nh + 1) (if_neg (by show ¬ (nh = 6 ∨ 5 ≤ tx_t n w s 1); omega)) h' a1 a2)⟩
      · rw [if_neg z] at f g
        refine pk_eq (w s) 115 (fun z => ?_) (fun z => ?_) rfl rfl (by omega) (by omega)
        · rw [if_pos z] at f g
          obtain ⟨-, k1, k6, d2, d3⟩ : _ ∧ s + 1 < n ∧ tx_kS (w (s + 1)) < 6 ∧ tx_d n w (s + 2) = true ∧ tx_d n w (s + 3) = true := by
            rcases hi with q | q | q | q
            · omega
            · omega
            · omega
            · exact q
          have b3 := tx_d_w d3
          have tn : tx_tn w s = 3 := by unfold tx_tn; rw [if_neg (by omega), if_pos z]
          have e2 : tx_t n w s 2 = w (s + 3) - 48 := by unfold tx_t; rw [if_neg (by omega), if_pos z, if_neg (by omega)]
          have q0 := ht 0 (by omega)
          have q1 := ht 1 (by omega)
          have q2 := ht 2 (by omega)
          have a2 : tx_t n w s 2 < 10 := by omega
          rw [q2]
          refine pk_lt (tx_t n w s 2) 1 (fun y => f (if_pos (Or.inr y))) (fun y => pk_ne ns 5 (fun y1 => ?_) (fun y1 => f (if_pos (Or.inl y1))) ((hM1 2 (by omega)).trans x2) rfl (by omega) (by omega)) rfl rfl (by omega) (by omega)
          exact ⟨4, m_coms hM1 x2 (by omega) q0 q1 q2 (fun h' a1 a2 => g (sp_as σ ns (nI (tx_t n w s 0)) (nI (tx_t n w s 1)) (nI (tx_t n w s 2)), nd, ns + 1, nh) (if_neg (by show ¬ (ns = 5 ∨ tx_t n w s 2 < 1); omega)) h' a1 a2)⟩
        · rw [if_neg z] at f g
          obtain ⟨z4, d1, d2⟩ : w s = 111 ∧ tx_d n w (s + 1) = true ∧ (tx_d n w (s + 2) = true ↔ tx_n n w (s + 1) = 2) := by
            rcases hi with q | q | q | q
            · omega
            · omega
            · exact q
            · omega
          have b1 := tx_d_w d1
          have tn : tx_tn w s = 1 := by unfold tx_tn; rw [if_neg (by omega), if_neg (by omega), if_pos z4]
          have q0 := ht 0 (by omega)
          have a0 : tx_t n w s 0 < 200 := by
            unfold tx_t; rw [if_neg (by omega), if_neg (by omega), if_pos z4]
            split
            · rename_i y
              have := tx_d_w (d2.mpr y)
              omega
            · omega
          rw [q0]
          refine pk_lt (tx_t n w s 0) 1 (fun y => f (if_neg (by omega))) (fun y => pk_le (tx_t n w s 0) 20 (fun y1 => ?_) (fun y1 => f (if_neg (by omega))) rfl rfl (by omega) (by omega)) rfl rfl (by omega) (by omega)
          exact g _ (if_pos ⟨y, y1⟩) _ (hM1.up _ _) (fun c hc => gw_up_ne hc)
end TX5
