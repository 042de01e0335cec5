/-! ## statements are obeyed -/
abbrev tx_O := (Nat → Int32) × Nat × Nat × Nat
def tx_ob (n : Nat) (w : Nat → Nat) (s : Nat) (x : tx_O) : Option tx_O :=
  if w s = 100 then (if x.2.1 = 8 ∨ 5 ≤ tx_t n w s 0 ∨ 5 ≤ tx_t n w s 1 ∨ tx_t n w s 0 = tx_t n w s 1 then none else some (sp_ad x.1 x.2.1 (tx_t n w s 0) (tx_t n w s 1), x.2.1 + 1, x.2.2.1, x.2.2.2))
  else if w s = 103 then (if tx_t n w s 0 < x.2.2.2 ∧ tx_t n w s 1 < x.2.2.1 then some (sp_gt x.1 (tx_t n w s 0) (nI (tx_t n w s 1)), x.2.1, x.2.2.1, x.2.2.2) else none)
  else if w s = 104 then (if x.2.2.2 = 6 ∨ 5 ≤ tx_t n w s 1 then none else some (sp_ah x.1 x.2.2.2 (tx_t n w s 0) (tx_t n w s 1) (tx_t n w s 2), x.2.1, x.2.2.1, x.2.2.2 + 1))
  else if w s = 115 then (if x.2.2.1 = 5 ∨ tx_t n w s 2 < 1 then none else some (sp_as x.1 x.2.2.1 (nI (tx_t n w s 0)) (nI (tx_t n w s 1)) (nI (tx_t n w s 2)), x.2.1, x.2.2.1 + 1, x.2.2.2))
  else (if 1 ≤ tx_t n w s 0 ∧ tx_t n w s 0 ≤ 20 then some (upd x.1 5 (nI (tx_t n w s 0)), x.2.1, x.2.2.1, x.2.2.2) else none)
section TX4
variable {h : gw_H} {Q : Int32 → gw_H → Prop} {n : Nat} {w : Nat → Nat} {s : Nat} {σ : Nat → Int32} {nd ns nh hr : Nat}
theorem tx_e_ok {least p : Nat} (g : (tx_e n w least p).1 = true) : least ≤ tx_n n w p ∧ p + tx_n n w p < n ∧ (tx_e n w least p).2 = p + tx_n n w p + 1 := by
  unfold tx_e at g ⊢
  split at g
  · exact absurd g (by simp)
  · rename_i h1
    split at g
    · rename_i h2
      rw [if_neg h1, if_pos h2]
      exact ⟨by omega, h2.1, rfl⟩
    · exact absurd g (by simp)
theorem tx_n2 {p : Nat} (g : 2 ≤ tx_n n w p) : tx_d n w p = true ∧ tx_d n w (p + 1) = true := by
  unfold tx_n at g
  split at g
  · rename_i a
    split at g
    · rename_i b; exact ⟨a, b⟩
    · omega
  · omega
theorem tx_n1 {p : Nat} (g : 1 ≤ tx_n n w p) : tx_d n w p = true ∧ (tx_d n w (p + 1) = true ↔ tx_n n w p = 2) := by
  unfold tx_n at g ⊢
  split at g
  · rename_i a
    rw [if_pos a]
    refine ⟨a, ?_⟩
    split at g
    · rename_i b; rw [if_pos b]; exact ⟨fun _ => rfl, fun _ => b⟩
    · rename_i b; rw [if_neg b]; exact ⟨fun z => absurd z b, fun z => by omega⟩
  · omega
/-- a statement that is one -/
def tx_is (n : Nat) (w : Nat → Nat) (s : Nat) : Prop :=
  ((w s = 100 ∨ w s = 103) ∧ tx_d n w (s + 1) = true ∧ tx_d n w (s + 2) = true) ∨ (w s = 104 ∧ s + 1 < n ∧ tx_kH (w (s + 1)) < 6 ∧ tx_d n w (s + 2) = true ∧ tx_d n w (s + 3) = true) ∨ (w s = 111 ∧ tx_d n w (s + 1) = true ∧ (tx_d n w (s + 2) = true ↔ tx_n n w (s + 1) = 2)) ∨ (w s = 115 ∧ s + 1 < n ∧ tx_kS (w (s + 1)) < 6 ∧ tx_d n w (s + 2) = true ∧ tx_d n w (s + 3) = true)
theorem tx_ok (g : (tx_b n w s).1 = true) : s < n ∧ s < (tx_b n w s).2 ∧ (tx_b n w s).2 ≤ n ∧ tx_is n w s := by
  unfold tx_b at g ⊢
  by_cases g0 : s < n
  · rw [if_pos g0] at g ⊢
    refine ⟨g0, ?_⟩
    unfold tx_is
    by_cases z1 : w s = 100
    · rw [if_pos z1] at g ⊢
      obtain ⟨a, b, c⟩ := tx_e_ok g
      exact ⟨by omega, by omega, Or.inl ⟨Or.inl z1, tx_n2 a⟩⟩
    · rw [if_neg z1] at g ⊢
      by_cases z2 : w s = 103
      · rw [if_pos z2] at g ⊢
        obtain ⟨a, b, c⟩ := tx_e_ok g
        exact ⟨by omega, by omega, Or.inl ⟨Or.inr z2, tx_n2 a⟩⟩
      · rw [if_neg z2] at g ⊢
        by_cases z3 : w s = 104
        · rw [if_pos z3] at g ⊢
          by_cases y : s + 1 < n ∧ tx_kH (w (s + 1)) < 6
          · rw [if_pos y] at g ⊢
            obtain ⟨a, b, c⟩ := tx_e_ok g
            exact ⟨by omega, by omega, Or.inr (Or.inl ⟨z3, y.1, y.2, tx_n2 a⟩)⟩
          · rw [if_neg y] at g; exact absurd g (by simp)
        · rw [if_neg z3] at g ⊢
          by_cases z4 : w s = 111
          · rw [if_pos z4] at g ⊢
            obtain ⟨a, b, c⟩ := tx_e_ok g
            exact ⟨by omega, by omega, Or.inr (Or.inr (Or.inl ⟨z4, tx_n1 a⟩))⟩
          · rw [if_neg z4] at g ⊢
            by_cases z5 : w s = 115
            · rw [if_pos z5] at g ⊢
              by_cases y : s + 1 < n ∧ tx_kS (w (s + 1)) < 6
              · rw [if_pos y] at g ⊢
                obtain ⟨a, b, c⟩ := tx_e_ok g
                exact ⟨by omega, by omega, Or.inr (Or.inr (Or.inr ⟨z5, y.1, y.2, tx_n2 a⟩))⟩
              · rw [if_neg y] at g; exact absurd g (by simp)
            · rw [if_neg z5] at g; exact absurd g (by simp)
  · rw [if_neg g0] at g; exact absurd g (by simp)
/-- an office that is told -/
def tx_W (x : tx_O) (hr : Nat) : Prop := sp_WF x.1 x.2.1 x.2.2.1 x.2.2.2 hr
theorem tx_W.ob {x y : tx_O} (hW : tx_W x hr) (hi : tx_is n w s) (e : tx_ob n w s x = some y) : tx_W y hr := by
  obtain ⟨σ, nd, ns, nh⟩ := x
  have hW : sp_WF σ nd ns nh hr := hW
  have h8 := hW.1.1
  have h5 := hW.1.2.1
  have h6 := hW.1.2.2.1
  unfold tx_ob at e
  by_cases z1 : w s = 100
  · rw [if_pos z1] at e
    split at e
    · cases e
    · rename_i q
      cases e
      exact hW.ad (by simp only at q; omega) (by simp only at q; omega) (by simp only at q; omega)
  · rw [if_neg z1] at e
    by_cases z2 : w s = 103
    · rw [if_pos z2] at e
      split at e
      · rename_i q
        cases e
        exact hW.gt _ (Or.inr ⟨_, q.2, rfl⟩)
      · cases e
    · rw [if_neg z2] at e
      by_cases z3 : w s = 104
      · rw [if_pos z3] at e
        split at e
        · cases e
        · rename_i q
          cases e
          rcases hi with hi | hi | hi | hi
          · omega
          · obtain ⟨-, -, k6, -, d3⟩ := hi
            have := (tx_d_w d3)
            refine hW.ah (by simp only at q; omega) ?_ (by simp only at q; omega) ?_
            · unfold tx_t; rw [if_pos z3, if_pos rfl]; exact k6
            · unfold tx_t; rw [if_pos z3, if_neg (by omega), show s + 1 + 2 = s + 3 by omega]; omega
          · omega
          · omega
      · rw [if_neg z3] at e
        by_cases z4 : w s = 115
        · rw [if_pos z4] at e
          split at e
          · cases e
          · rename_i q
            cases e
            rcases hi with hi | hi | hi | hi
            · omega
            · omega
            · omega
            · obtain ⟨-, -, k6, d2, d3⟩ := hi
              have := (tx_d_w d3)
              have := (tx_d_w d2)
              refine hW.as (by simp only at q; omega) ?_ ?_ (by simp only at q; omega) ?_
              · unfold tx_t; rw [if_neg z3, if_pos z4, if_pos rfl]; exact k6
              · unfold tx_t; rw [if_neg z3, if_pos z4, if_neg (by omega), show s + 1 + 1 = s + 2 by omega]; omega
              · unfold tx_t; rw [if_neg z3, if_pos z4, if_neg (by omega), show s + 1 + 2 = s + 3 by omega]; omega
        · rw [if_neg z4] at e
          split at e
          · rename_i q
            cases e
            exact hW.lo q.1 q.2
          · cases e
theorem t_dg' (T : tx_T h n w) {p : Int32} (k : Nat) (e : p = nI k) (hk : k < 1000) (hd : tx_d n w k = true) (hq : Q (nI (w k - 48)) h) : wp_X4_digit h p Q :=
  t_dg T k e hk (by rw [if_pos hd]; exact hq)
theorem nI_2 (a : Nat) : nI a + 2 = nI (a + 2) := nI_add a 2
theorem nI_3 (a : Nat) : nI a + 3 = nI (a + 3) := nI_add a 3
theorem c_ob (T : tx_T h n w) (hW : sp_WF σ nd ns nh hr) (hR : rc_C 24 h σ nd ns nh) (hs : s < n) (hi : tx_is n w s) {p : Int32} (e : p = nI s)
    (f : tx_ob n w s (σ, nd, ns, nh) = none → Q 0 h) (g : ∀ y, tx_ob n w s (σ, nd, ns, nh) = some y → ∀ h', rc_C 24 h' y.1 y.2.1 y.2.2.1 y.2.2.2 → rc_F 24 h h' → Q 1 h') : wp_X5_obey h p Q := by
  have h96 := T.1
  have h8 := hW.1.1
  have h5 := hW.1.2.1
  have h6 := hW.1.2.2.1
  have hb := (T.2.2 s hs).1
  have hv := fun k (hk : k < n) => (T.2.2 k hk).1
  subst e
  unfold wp_X5_obey
  rw [nI_1, nI_2, nI_3]
  refine t_sg T s rfl (by omega) ?_
  rw [if_pos hs]
  unfold tx_ob at f g
  unfold tx_is at hi
  refine pk_eq (w s) 100 (fun z => ?_) (fun z => ?_) rfl rfl (by omega) (by omega)
  · rw [if_pos z] at f g
    obtain ⟨-, d1, d2⟩ : _ ∧ tx_d n w (s + 1) = true ∧ tx_d n w (s + 2) = true := by
      rcases hi with q | q | q | q
      · exact q
      · omega
      · omega
      · omega
    have b1 := tx_d_w d1
    have b2 := tx_d_w d2
    have e0 : tx_t n w s 0 = w (s + 1) - 48 := by unfold tx_t; rw [if_neg (by omega), if_neg (by omega), if_neg (by omega)]
    have e1 : tx_t n w s 1 = w (s + 2) - 48 := by unfold tx_t; rw [if_neg (by omega), if_neg (by omega), if_neg (by omega)]
    rw [e0, e1] at f g
    refine t_dg' T _ rfl (by omega) d1 (t_dg' T _ rfl (by omega) d2 (c_ad hW hR rfl rfl (by omega) (by omega) (fun q => ⟨rfl, f ?_⟩) (fun q1 q2 q3 q4 h' a1 a2 => ⟨rfl, g (sp_ad σ nd (w (s + 1) - 48) (w (s + 2) - 48), nd + 1, ns, nh) ?_ h' a1 a2⟩)))
    · exact if_pos q
    · exact if_neg (by show ¬ (nd = 8 ∨ 5 ≤ w (s + 1) - 48 ∨ 5 ≤ w (s + 2) - 48 ∨ w (s + 1) - 48 = w (s + 2) - 48); omega)
  · rw [if_neg z] at f g
    refine pk_eq (w s) 103 (fun z => ?_) (fun z => ?_) rfl rfl (by omega) (by omega)
    · rw [if_pos z] at f g
      obtain ⟨-, d1, d2⟩ : _ ∧ tx_d n w (s + 1) = true ∧ tx_d n w (s + 2) = true := by
        rcases hi with q | q | q | q
        · exact q
        · omega
        · omega
        · omega
      have b1 := tx_d_w d1
      have b2 := tx_d_w d2
      have e0 : tx_t n w s 0 = w (s + 1) - 48 := by unfold tx_t; rw [if_neg (by omega), if_neg (by omega), if_neg (by omega)]
      have e1 : tx_t n w s 1 = w (s + 2) - 48 := by unfold tx_t; rw [if_neg (by omega), if_neg (by omega), if_neg (by omega)]
      rw [e0, e1] at f g
      refine t_dg' T _ rfl (by omega) d1 (t_dg' T _ rfl (by omega) d2 ?_)
      unfold wp_X5_giveInMind
      refine c_hh (rr_e5 hW hR).2.2.1 (by omega) (fun q => br_t rfl ⟨rfl, f (if_neg (fun y => c_nr rfl y.1 (by omega) q))⟩) (fun j hj ej => br_f rr_dec1 (c_sh (rr_e5 hW hR).2.1 (by omega) (fun q => bn_t rfl ⟨rfl, f (if_neg (fun y => c_nr rfl y.2 (by omega) q))⟩) (fun i hi' ei => bn_f rr_dec1 ?_)))
      have ej' := (nI_eq (by omega) (by omega)).mp ej
      have ei' := (nI_eq (by omega) (by omega)).mp ei
      refine c_gv hW hR j ej hj (fun q => c_nr ei hi' (by omega) q) (fun i2 hi2 ei2 h' a1 a2 => ⟨rfl, g _ (if_pos ⟨by rw [ej']; exact hj, by rw [ei']; exact hi'⟩) h' ?_ a2⟩)
      have := (nI_eq (by omega) (by omega)).mp ei2
      subst this
      rw [ej']
      exact a1
    · rw [if_neg z] at f g
      refine pk_eq (w s) 104 (fun z => ?_) (fun z => ?_) rfl rfl (by omega) (by omega)
      · rw [if_pos z] at f g
        obtain ⟨-, k1, k6, d2, d3⟩ : _ ∧ s + 1 < n ∧ tx_kH (w (s + 1)) < 6 ∧ tx_d n w (s + 2) = true ∧ tx_d n w (s + 3) = true := by
          rcases hi with q | q | q | q
          · omega
          · exact q
          · omega
          · omega
        have b2 := tx_d_w d2
        have b3 := tx_d_w d3
        have e0 : tx_t n w s 0 = tx_kH (w (s + 1)) := by unfold tx_t; rw [if_pos z, if_pos rfl]
        have e1 : tx_t n w s 1 = w (s + 2) - 48 := by unfold tx_t; rw [if_pos z, if_neg (by omega)]
        have e2 : tx_t n w s 2 = w (s + 3) - 48 := by unfold tx_t; rw [if_pos z, if_neg (by omega)]
        rw [e0, e1, e2] at g
        rw [e1] at f
        refine t_kd T s rfl hs (fun y => by omega) (fun _ y => by omega) (fun _ _ => ?_)
        rw [if_pos k6]
        refine t_dg' T _ rfl (by omega) d2 (t_dg' T _ rfl (by omega) d3 (c_ah hW hR rfl rfl rfl (by omega) (fun q => ⟨rfl, f ?_⟩) (fun q1 q2 h' a1 a2 => ⟨rfl, g (sp_ah σ nh (tx_kH (w (s + 1))) (w (s + 2) - 48) (w (s + 3) - 48), nd, ns, nh + 1) ?_ h' a1 a2⟩)))
        · exact if_pos q
        · exact if_neg (by show ¬ (nh = 6 ∨ 5 ≤ w (s + 2) - 48); omega)
      · rw [if_neg z] at f g
        refine pk_eq (w s) 115 (fun z => ?_) (fun z => ?_) rfl rfl (by omega) (by omega)
        · rw [if_pos z] at f g
          obtain ⟨-, k1, k6, d2, d3⟩ : _ ∧ s + 1 < n ∧ tx_kS (w (s + 1)) < 6 ∧ tx_d n w (s + 2) = true ∧ tx_d n w (s + 3) = true := by
            rcases hi with q | q | q | q
            · omega
            · omega
            · omega
            · exact q
          have b2 := tx_d_w d2
          have b3 := tx_d_w d3
          have e0 : tx_t n w s 0 = tx_kS (w (s + 1)) := by unfold tx_t; rw [if_neg (by omega), if_pos z, if_pos rfl]
          have e1 : tx_t n w s 1 = w (s + 2) - 48 := by unfold tx_t; rw [if_neg (by omega), if_pos z, if_neg (by omega)]
          have e2 : tx_t n w s 2 = w (s + 3) - 48 := by unfold tx_t; rw [if_neg (by omega), if_pos z, if_neg (by omega)]
          rw [e0, e1, e2] at g
          rw [e2] at f
          refine t_kd T s rfl hs (fun y => by omega) (fun _ y => ?_) (fun _ y => absurd z y)
          rw [if_pos k6]
          refine t_dg' T _ rfl (by omega) d2 (t_dg' T _ rfl (by omega) d3 (c_as hW hR (fun q => ⟨rfl, f ?_⟩) (fun q1 q2 h' a1 a2 => ⟨rfl, g (sp_as σ ns (nI (tx_kS (w (s + 1)))) (nI (w (s + 2) - 48)) (nI (w (s + 3) - 48)), nd, ns + 1, nh) ?_ h' a1 a2⟩)))
          · refine if_pos (q.imp id (fun q => ?_))
            exact (nI_ltI (b := 1) (by omega) (by omega)).mp q
          · refine if_neg (fun q => ?_)
            rcases q with q | q
            · have : ns = 5 := q
              omega
            · exact q2 ((nI_ltI (b := 1) (by omega) (by omega)).mpr q)
        · rw [if_neg z] at f g
          obtain ⟨z4, d1, d2⟩ : w s = 111 ∧ tx_d n w (s + 1) = true ∧ (tx_d n w (s + 2) = true ↔ tx_n n w (s + 1) = 2) := by
            rcases hi with q | q | q | q
            · omega
            · omega
            · exact q
            · omega
          have b1 := tx_d_w d1
          have e0 : tx_t n w s 0 = if tx_n n w (s + 1) = 2 then 10 * (w (s + 1) - 48) + (w (s + 2) - 48) else w (s + 1) - 48 := by
            unfold tx_t; rw [if_neg (by omega), if_neg (by omega), if_pos z4]
          have fin : ∀ v, v < 200 → v = tx_t n w s 0 → wp_X5_setLoudInMind h (nI v) (fun r_38 h_37 => (narrow .boolean (.int r_38) = .int r_38 ∧ Q r_38 h_37)) := by
            intro v hv2 ev
            rw [← ev] at f g
            unfold wp_X5_setLoudInMind
            refine c_out ⟨fun c => ⟨rfl, ?_⟩, fun c => ⟨rfl, f (if_neg (fun q => c ?_))⟩⟩
            · obtain ⟨v', v1, v2, e'⟩ := sp_outn (lo := 1) (hi := 20) rfl rfl (by omega) (by omega) c
              have := (nI_eq (by omega) (by omega)).mp e'
              subst this
              exact g _ (if_pos ⟨v1, v2⟩) _ (hR.lo v) (rc_F.up 0 (by omega) rfl)
            · unfold sp_out
              rw [if_pos (show (1 : Int32) ≤ nI v from (nI_leI (a := 1) (by omega) (by omega)).mpr q.1), if_pos (show nI v ≤ (20 : Int32) from (nI_leI (b := 20) (by omega) (by omega)).mpr q.2)]
          unfold wp_X4_value
          rw [nI_1]
          refine t_dg' T _ rfl (by omega) d1 (t_dg T (s + 2) rfl (by omega) ?_)
          by_cases y : tx_d n w (s + 2) = true
          · have b2 := tx_d_w y
            rw [if_pos y]
            rw [if_pos (d2.mp y)] at e0
            refine bn_f (n9_ne (by omega)) ?_
            rw [show (10 : Int32) = nI 10 from rfl, pk_mul, nI_add]
            exact fin _ (by omega) e0.symm
          · rw [if_neg y]
            rw [if_neg (fun q => y (d2.mpr q))] at e0
            exact bn_t rfl (fin _ (by omega) e0.symm)
end TX4
