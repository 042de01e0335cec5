/-! ## what is told by letters: a door more, a head more -/
def sp_ad (σ : Nat → Int32) (nd a b : Nat) : Nat → Int32 := upd (upd (upd (upd σ (6 + 2 * nd) (nI a)) (6 + 2 * nd + 1) (nI b)) 1 (σ 1 ||| (1 <<< (nI nd &&& 31)))) 0 (nI (nd + 1))
def sp_ah (σ : Nat → Int32) (nh k r q : Nat) : Nat → Int32 := upd (upd (upd (upd (upd (upd (upd σ (37 + 6 * nh + 0) (nI k)) (37 + 6 * nh + 1) (nI r)) (37 + 6 * nh + 2) (nI q)) (37 + 6 * nh + 3) (-9)) (37 + 6 * nh + 4) 0) (37 + 6 * nh + 5) 0) 3 (nI (nh + 1))
section TX1
variable {hC hM : gw_H} {σ τ w : Nat → Int32} {nd ns nh hr ns' N a b k r q : Nat}
theorem sp_ad_n {i : Nat} (h0 : i ≠ 0) (h1 : i ≠ 1) (h2 : i ≠ 6 + 2 * nd) (h3 : i ≠ 6 + 2 * nd + 1) : sp_ad σ nd a b i = σ i := by
  unfold sp_ad upd
  rw [if_neg h0, if_neg h1, if_neg h3, if_neg h2]
theorem sp_ad_0 : sp_ad σ nd a b 0 = nI (nd + 1) := by unfold sp_ad upd; exact if_pos rfl
theorem sp_ad_1 : sp_ad σ nd a b 1 = σ 1 ||| (1 <<< (nI nd &&& 31)) := by unfold sp_ad upd; rw [if_neg (by omega), if_pos rfl]
theorem sp_ad_d : sp_dr (sp_ad σ nd a b) nd 0 = nI a ∧ sp_dr (sp_ad σ nd a b) nd 1 = nI b := by
  unfold sp_dr sp_ad upd
  refine ⟨?_, ?_⟩
  · rw [if_neg (by omega), if_neg (by omega), if_neg (by omega), if_pos (by omega)]
  · rw [if_neg (by omega), if_neg (by omega), if_pos (by omega)]
theorem sp_WF.ad (hW : sp_WF σ nd ns nh hr) (hn : nd < 8) (ha : a < 5) (hb : b < 5) : sp_WF (sp_ad σ nd a b) (nd + 1) ns nh hr := by
  obtain ⟨⟨v1, v2, v3, v4⟩, ⟨u1, u2, u3, u4⟩, w3, ⟨m, hm, w4⟩, w5, w6, w7⟩ := hW
  refine ⟨⟨by omega, v2, v3, v4⟩, ⟨sp_ad_0, ?_, ?_, ?_⟩, ?_, ?_, fun d hd => ?_, fun i hi => ?_, fun j hj => ?_⟩
  · rw [sp_ad_n (by omega) (by omega) (by omega) (by omega)]; exact u2
  · rw [sp_ad_n (by omega) (by omega) (by omega) (by omega)]; exact u3
  · rw [sp_ad_n (by omega) (by omega) (by omega) (by omega)]; exact u4
  · rw [sp_ad_n (by omega) (by omega) (by omega) (by omega)]; exact w3
  · rw [sp_ad_1]
    exact b_nI (n := nd + 1) (by omega) (fun i h1 h2 => by
      rw [b_or, b_one nd (by omega) h2, w4, nI_b (by omega) hm (by omega), decide_eq_false (by omega)]; rfl)
  · by_cases g : d = nd
    · subst g
      obtain ⟨q1, q2⟩ := sp_ad_d (σ := σ) (nd := d) (a := a) (b := b)
      rw [q1, q2]; exact ⟨⟨a, ha, rfl⟩, ⟨b, hb, rfl⟩⟩
    · unfold sp_dr; rw [sp_ad_n (by omega) (by omega) (by omega) (by omega), sp_ad_n (by omega) (by omega) (by omega) (by omega)]; exact w5 d (by omega)
  · unfold sp_sg; rw [sp_ad_n (by omega) (by omega) (by omega) (by omega), sp_ad_n (by omega) (by omega) (by omega) (by omega), sp_ad_n (by omega) (by omega) (by omega) (by omega)]; exact w6 i hi
  · unfold sp_hd; rw [sp_ad_n (by omega) (by omega) (by omega) (by omega), sp_ad_n (by omega) (by omega) (by omega) (by omega), sp_ad_n (by omega) (by omega) (by omega) (by omega), sp_ad_n (by omega) (by omega) (by omega) (by omega), sp_ad_n (by omega) (by omega) (by omega) (by omega), sp_ad_n (by omega) (by omega) (by omega) (by omega)]; exact w7 j hj
theorem c_ad (hW : sp_WF σ nd ns nh hr) {h : gw_H} {o : Nat} (hR : rc_C o h σ nd ns nh) {p1 p2 : Int32} (e1 : p1 = nI a) (e2 : p2 = nI b) (ha : a < 100) (hb : b < 100) {Q : Int32 → gw_H → Prop}
    (f : (nd = 8 ∨ 5 ≤ a ∨ 5 ≤ b ∨ a = b) → Q 0 h) (g : nd < 8 → a < 5 → b < 5 → a ≠ b → ∀ h', rc_C o h' (sp_ad σ nd a b) (nd + 1) ns nh → rc_F o h h' → Q 1 h') : wp_X0_add h o p1 p2 Q := by
  have h8 := hW.1.1
  have h5 := hW.1.2.1
  have h6 := hW.1.2.2.1
  have r1 := (rr_e5 hW hR).1
  subst e1 e2
  unfold wp_X0_add
  refine pk_le 8 nd (fun c => f (Or.inl (by omega))) (fun c => c_rm (fun z => br_t rfl (f (Or.inr (Or.inl ?_)))) (fun a' ha' ea => br_f rr_dec1 (c_rm (fun z => br_t rfl (f (Or.inr (Or.inr (Or.inl ?_))))) (fun b' hb' eb => br_f rr_dec1 ?_)))) rfl r1 (by omega) (by omega)
  · rcases z with z | z
    · exact absurd z (nI_pos (by omega))
    · exact (nI_leI (by omega) (by omega)).mp z
  · rcases z with z | z
    · exact absurd z (nI_pos (by omega))
    · exact (nI_leI (by omega) (by omega)).mp z
  · have ea' := (nI_eq (by omega) (by omega)).mp ea
    have eb' := (nI_eq (by omega) (by omega)).mp eb
    subst ea' eb'
    refine pk_ne a b (fun ne => ?_) (fun e => f (Or.inr (Or.inr (Or.inr e)))) rfl rfl (by omega) (by omega)
    refine c_put nd r1 (by omega) (by omega) (c_put nd (by rw [gw_up_ne (by omega)]; exact r1) (by omega) (by omega) (c_put nd (by rw [gw_up_ne (by omega), gw_up_ne (by omega)]; exact r1) (by omega) (by omega) ?_))
    rw [gw_up_ne (by omega), gw_up_ne (by omega), gw_up_ne (by omega), r1, nI_1]
    refine g c ha' hb' ne _ ?_ ((rc_F.up 2 (by omega) rfl).trans ((rc_F.up 3 (by omega) rfl).trans ((rc_F.up 4 (by omega) rfl).trans (rc_F.up 1 (by omega) rfl))))
    obtain ⟨⟨r1, r2, r3, r4, r5⟩, rD, rS, rH⟩ := hR
    refine ⟨⟨?_, ?_, ?_, ?_, ?_⟩, fun d hd => ?_, fun i hi => ?_, fun j hj => ?_⟩
    · rw [gw_up_ee, sp_ad_0]
    · rw [gw_up_ne (by omega), gw_up_ne (by omega), gw_up_ne (by omega), gw_up_ne (by omega), sp_ad_n (by omega) (by omega) (by omega) (by omega)]; exact r2
    · rw [gw_up_ne (by omega), gw_up_ne (by omega), gw_up_ne (by omega), gw_up_ne (by omega), sp_ad_n (by omega) (by omega) (by omega) (by omega)]; exact r3
    · rw [gw_up_ne (by omega), gw_up_ne (by omega), gw_up_ne (by omega), gw_up_ne (by omega), sp_ad_n (by omega) (by omega) (by omega) (by omega)]; exact r4
    · rw [gw_up_ne (by omega), gw_up_ne (by omega), gw_up_ne (by omega), gw_up_ne (by omega), sp_ad_n (by omega) (by omega) (by omega) (by omega)]; exact r5
    · unfold sp_op
      rw [sp_ad_1, b_or, b_one nd (by omega) (by omega)]
      by_cases y : d = nd
      · subst y
        obtain ⟨q1, q2⟩ := sp_ad_d (σ := σ) (nd := d) (a := a) (b := b)
        rw [q1, q2]
        refine ⟨?_, ?_, ?_⟩
        · rw [gw_up_ne (by omega), gw_up_ne (by omega), gw_up_ne (by omega), gw_up_ee]
        · rw [gw_up_ne (by omega), gw_up_ne (by omega), gw_up_ee]
        · rw [gw_up_ne (by omega), gw_up_ee]
          simp
      · obtain ⟨q1, q2, q3⟩ := rD d (by omega)
        refine ⟨?_, ?_, ?_⟩
        · rw [gw_up_ne (by omega), gw_up_ne (by omega), gw_up_ne (by omega), gw_up_en y]
          unfold sp_dr; rw [sp_ad_n (by omega) (by omega) (by omega) (by omega)]; exact q1
        · rw [gw_up_ne (by omega), gw_up_ne (by omega), gw_up_en y, gw_up_ne (by omega)]
          unfold sp_dr; rw [sp_ad_n (by omega) (by omega) (by omega) (by omega)]; exact q2
        · rw [gw_up_ne (by omega), gw_up_en y, gw_up_ne (by omega), gw_up_ne (by omega), q3, decide_eq_false y, Bool.or_false]; rfl
    · rw [gw_up_ne (by omega), gw_up_ne (by omega), gw_up_ne (by omega), gw_up_ne (by omega), gw_up_ne (by omega), gw_up_ne (by omega), gw_up_ne (by omega), gw_up_ne (by omega), gw_up_ne (by omega), gw_up_ne (by omega), gw_up_ne (by omega), gw_up_ne (by omega)]
      unfold sp_sg; rw [sp_ad_n (by omega) (by omega) (by omega) (by omega), sp_ad_n (by omega) (by omega) (by omega) (by omega), sp_ad_n (by omega) (by omega) (by omega) (by omega)]; exact rS i hi
    · have z : ∀ k', 10 ≤ k' → (gw_up (gw_up (gw_up (gw_up h (o + 2) nd (nI a)) (o + 3) nd (nI b)) (o + 4) nd 1) (o + 1) 3 (nI (nd + 1))) (o + k') = h (o + k') := fun k' hk' => by
        rw [gw_up_ne (by omega), gw_up_ne (by omega), gw_up_ne (by omega), gw_up_ne (by omega)]
      rw [z 10 (by omega), z 11 (by omega), z 12 (by omega), z 13 (by omega), z 14 (by omega), z 15 (by omega)]
      unfold sp_hd; rw [sp_ad_n (by omega) (by omega) (by omega) (by omega), sp_ad_n (by omega) (by omega) (by omega) (by omega), sp_ad_n (by omega) (by omega) (by omega) (by omega), sp_ad_n (by omega) (by omega) (by omega) (by omega), sp_ad_n (by omega) (by omega) (by omega) (by omega), sp_ad_n (by omega) (by omega) (by omega) (by omega)]
      exact rH j hj
/-! a head more -/
theorem sp_ah_n {i : Nat} (h3 : i ≠ 3) (h : i < 37 + 6 * nh ∨ 37 + 6 * nh + 5 < i) : sp_ah σ nh k r q i = σ i := by
  unfold sp_ah upd
  rw [if_neg h3, if_neg (by omega), if_neg (by omega), if_neg (by omega), if_neg (by omega), if_neg (by omega), if_neg (by omega)]
theorem sp_ah_3 : sp_ah σ nh k r q 3 = nI (nh + 1) := by unfold sp_ah upd; exact if_pos rfl
theorem sp_ah_h : sp_hd (sp_ah σ nh k r q) nh 0 = nI k ∧ sp_hd (sp_ah σ nh k r q) nh 1 = nI r ∧ sp_hd (sp_ah σ nh k r q) nh 2 = nI q ∧ sp_hd (sp_ah σ nh k r q) nh 3 = -9 ∧ sp_hd (sp_ah σ nh k r q) nh 4 = 0 ∧ sp_hd (sp_ah σ nh k r q) nh 5 = 0 := by
  unfold sp_hd sp_ah upd
  refine ⟨?_, ?_, ?_, ?_, ?_, ?_⟩
  · rw [if_neg (by omega), if_neg (by omega), if_neg (by omega), if_neg (by omega), if_neg (by omega), if_neg (by omega), if_pos (by omega)]
  · rw [if_neg (by omega), if_neg (by omega), if_neg (by omega), if_neg (by omega), if_neg (by omega), if_pos (by omega)]
  · rw [if_neg (by omega), if_neg (by omega), if_neg (by omega), if_neg (by omega), if_pos (by omega)]
  · rw [if_neg (by omega), if_neg (by omega), if_neg (by omega), if_pos (by omega)]
  · rw [if_neg (by omega), if_neg (by omega), if_pos (by omega)]
  · rw [if_neg (by omega), if_pos (by omega)]
theorem sp_WF.ah (hW : sp_WF σ nd ns nh hr) (hn : nh < 6) (hk : k < 6) (hr' : r < 5) (hq : q < 10) : sp_WF (sp_ah σ nh k r q) nd ns (nh + 1) hr := by
  obtain ⟨⟨v1, v2, v3, v4⟩, ⟨u1, u2, u3, u4⟩, w3, w4, w5, w6, w7⟩ := hW
  refine ⟨⟨v1, v2, by omega, v4⟩, ⟨?_, ?_, sp_ah_3, ?_⟩, ?_, ?_, fun d hd => ?_, fun i hi => ?_, fun j hj => ?_⟩
  · rw [sp_ah_n (by omega) (by omega)]; exact u1
  · rw [sp_ah_n (by omega) (by omega)]; exact u2
  · rw [sp_ah_n (by omega) (by omega)]; exact u4
  · rw [sp_ah_n (by omega) (by omega)]; exact w3
  · rw [sp_ah_n (by omega) (by omega)]; exact w4
  · unfold sp_dr; rw [sp_ah_n (by omega) (by omega), sp_ah_n (by omega) (by omega)]; exact w5 d hd
  · unfold sp_sg; rw [sp_ah_n (by omega) (by omega), sp_ah_n (by omega) (by omega), sp_ah_n (by omega) (by omega)]; exact w6 i hi
  · by_cases g : j = nh
    · subst g
      obtain ⟨q0, q1, q2, q3, q4, q5⟩ := sp_ah_h (σ := σ) (nh := j) (k := k) (r := r) (q := q)
      rw [q0, q1, q2, q3, q4, q5]
      exact ⟨⟨k, hk, rfl⟩, ⟨r, hr', rfl⟩, ⟨q, hq, rfl⟩, Or.inl ⟨rfl, rfl⟩, ⟨0, by omega, rfl⟩, ⟨0, by omega, rfl⟩⟩
    · unfold sp_hd; rw [sp_ah_n (by omega) (by omega), sp_ah_n (by omega) (by omega), sp_ah_n (by omega) (by omega), sp_ah_n (by omega) (by omega), sp_ah_n (by omega) (by omega), sp_ah_n (by omega) (by omega)]; exact w7 j (by omega)
theorem c_ah (hW : sp_WF σ nd ns nh hr) {h : gw_H} {o : Nat} (hR : rc_C o h σ nd ns nh) {p1 p2 p3 : Int32} (e1 : p1 = nI k) (e2 : p2 = nI r) (e3 : p3 = nI q) (ha : r < 100) {Q : Int32 → gw_H → Prop}
    (f : (nh = 6 ∨ 5 ≤ r) → Q 0 h) (g : nh < 6 → r < 5 → ∀ h', rc_C o h' (sp_ah σ nh k r q) nd ns (nh + 1) → rc_F o h h' → Q 1 h') : wp_X1_add h o p1 p2 p3 Q := by
  have h8 := hW.1.1
  have h5 := hW.1.2.1
  have h6 := hW.1.2.2.1
  have r1 := (rr_e5 hW hR).2.2.1
  subst e1 e2 e3
  unfold wp_X1_add
  refine pk_le 6 nh (fun c => f (Or.inl (by omega))) (fun c => c_rm (fun z => bn_t rfl (f (Or.inr ?_))) (fun r' hr' er => bn_f rr_dec1 ?_)) rfl r1 (by omega) (by omega)
  · rcases z with z | z
    · exact absurd z (nI_pos (by omega))
    · exact (nI_leI (by omega) (by omega)).mp z
  · have er' := (nI_eq (by omega) (by omega)).mp er
    subst er'
    have u1 : ∀ x1, gw_up h (o + 10) nh x1 (o + 9) 8 = nI nh := fun _ => by rw [gw_up_ne (by omega)]; exact r1
    have u2 : ∀ x1 x2, gw_up (gw_up h (o + 10) nh x1) (o + 11) nh x2 (o + 9) 8 = nI nh := fun _ _ => by rw [gw_up_ne (by omega)]; exact u1 _
    have u3 : ∀ x1 x2 x3, gw_up (gw_up (gw_up h (o + 10) nh x1) (o + 11) nh x2) (o + 12) nh x3 (o + 9) 8 = nI nh := fun _ _ _ => by rw [gw_up_ne (by omega)]; exact u2 _ _
    have u4 : ∀ x1 x2 x3 x4, gw_up (gw_up (gw_up (gw_up h (o + 10) nh x1) (o + 11) nh x2) (o + 12) nh x3) (o + 15) nh x4 (o + 9) 8 = nI nh := fun _ _ _ _ => by rw [gw_up_ne (by omega)]; exact u3 _ _ _
    refine c_put nh r1 (by omega) (by omega) (c_put nh (u1 _) (by omega) (by omega) (c_put nh (u2 _ _) (by omega) (by omega) (c_put nh (u3 _ _ _) (by omega) (by omega) (c_lo nh (u4 _ _ _ _) (by omega) ?_))))
    have e9 : gw_up (gw_up (gw_up (gw_up (gw_up (gw_up (gw_up (gw_up h (o + 10) nh (nI k)) (o + 11) nh (nI r)) (o + 12) nh (nI q)) (o + 15) nh 0) (o + 13) nh (-9)) (o + 14) nh 0) (o + 16) nh (-9)) (o + 17) nh (-9) (o + 9) 8 = nI nh := by
      rw [gw_up_ne (by omega), gw_up_ne (by omega), gw_up_ne (by omega), gw_up_ne (by omega)]; exact u4 _ _ _ _
    rw [e9, nI_1]
    refine g c hr' _ ?_ ((rc_F.up 10 (by omega) rfl).trans ((rc_F.up 11 (by omega) rfl).trans ((rc_F.up 12 (by omega) rfl).trans ((rc_F.up 15 (by omega) rfl).trans ((rc_F.up 13 (by omega) rfl).trans ((rc_F.up 14 (by omega) rfl).trans ((rc_F.up 16 (by omega) rfl).trans ((rc_F.up 17 (by omega) rfl).trans (rc_F.up 9 (by omega) rfl)))))))))
    have R7 : rc_C o (gw_up (gw_up (gw_up (gw_up (gw_up (gw_up (gw_up (gw_up h (o + 10) nh (nI k)) (o + 11) nh (nI r)) (o + 12) nh (nI q)) (o + 15) nh 0) (o + 13) nh (-9)) (o + 14) nh 0) (o + 16) nh (-9)) (o + 17) nh (-9))
        (upd (upd (upd (upd (upd (upd σ (37 + 6 * nh + 0) (nI k)) (37 + 6 * nh + 1) (nI r)) (37 + 6 * nh + 2) (nI q)) (37 + 6 * nh + 5) 0) (37 + 6 * nh + 3) (-9)) (37 + 6 * nh + 4) 0) nd ns nh :=
      ((((((((hR.hput h8 h5 (k := 0) (by omega) rfl nh _).hput h8 h5 (k := 1) (by omega) rfl nh _).hput h8 h5 (k := 2) (by omega) rfl nh _).hput h8 h5 (k := 5) (by omega) rfl nh _).hput h8 h5 (k := 3) (by omega) rfl nh _).hput h8 h5 (k := 4) (by omega) rfl nh _).irr (fun m hm => by omega)).irr (fun m hm => by omega))
    generalize hh7 : gw_up (gw_up (gw_up (gw_up (gw_up (gw_up (gw_up (gw_up h (o + 10) nh (nI k)) (o + 11) nh (nI r)) (o + 12) nh (nI q)) (o + 15) nh 0) (o + 13) nh (-9)) (o + 14) nh 0) (o + 16) nh (-9)) (o + 17) nh (-9) = h7 at *
    have es : ∀ i, i ≠ 3 → sp_ah σ nh k r q i = (upd (upd (upd (upd (upd (upd σ (37 + 6 * nh + 0) (nI k)) (37 + 6 * nh + 1) (nI r)) (37 + 6 * nh + 2) (nI q)) (37 + 6 * nh + 5) 0) (37 + 6 * nh + 3) (-9)) (37 + 6 * nh + 4) 0) i := by
      intro i hi
      unfold sp_ah upd
      rw [if_neg hi]
      by_cases i5 : i = 37 + 6 * nh + 5
      · rw [if_pos i5, if_neg (by omega), if_neg (by omega), if_pos i5]
      · rw [if_neg i5]
        by_cases i4 : i = 37 + 6 * nh + 4
        · rw [if_pos i4, if_pos i4]
        · rw [if_neg i4, if_neg i4]
          by_cases i3 : i = 37 + 6 * nh + 3
          · rw [if_pos i3, if_pos i3]
          · rw [if_neg i3, if_neg i3, if_neg i5]
    have w : ∀ c i, c = o + 9 → h7 c i = h c i := by
      intro c i hc
      subst hc
      rw [← hh7, gw_up_ne (by omega), gw_up_ne (by omega), gw_up_ne (by omega), gw_up_ne (by omega), gw_up_ne (by omega), gw_up_ne (by omega), gw_up_ne (by omega), gw_up_ne (by omega)]
    have hnew : ∀ c v, h7 c nh = v → h7 c nh = v := fun _ _ q => q
    have z10 : h7 (o + 10) nh = nI k := by rw [← hh7, gw_up_ne (by omega), gw_up_ne (by omega), gw_up_ne (by omega), gw_up_ne (by omega), gw_up_ne (by omega), gw_up_ne (by omega), gw_up_ne (by omega), gw_up_ee]
    have z11 : h7 (o + 11) nh = nI r := by rw [← hh7, gw_up_ne (by omega), gw_up_ne (by omega), gw_up_ne (by omega), gw_up_ne (by omega), gw_up_ne (by omega), gw_up_ne (by omega), gw_up_ee]
    have z12 : h7 (o + 12) nh = nI q := by rw [← hh7, gw_up_ne (by omega), gw_up_ne (by omega), gw_up_ne (by omega), gw_up_ne (by omega), gw_up_ne (by omega), gw_up_ee]
    have z13 : h7 (o + 13) nh = -9 := by rw [← hh7, gw_up_ne (by omega), gw_up_ne (by omega), gw_up_ne (by omega), gw_up_ee]
    have z14 : h7 (o + 14) nh = 0 := by rw [← hh7, gw_up_ne (by omega), gw_up_ne (by omega), gw_up_ee]
    have z15 : h7 (o + 15) nh = 0 := by rw [← hh7, gw_up_ne (by omega), gw_up_ne (by omega), gw_up_ne (by omega), gw_up_ne (by omega), gw_up_ee]
    obtain ⟨⟨r1, r2, r3, r4, r5⟩, rD, rS, rH⟩ := R7
    refine ⟨⟨?_, ?_, ?_, ?_, ?_⟩, fun d hd => ?_, fun i hi => ?_, fun j hj => ?_⟩
    · rw [gw_up_ne (by omega), es 0 (by omega)]; exact r1
    · rw [gw_up_ne (by omega), es 2 (by omega)]; exact r2
    · rw [gw_up_ee, sp_ah_3]
    · rw [gw_up_ne (by omega), es 4 (by omega)]; exact r4
    · rw [gw_up_ne (by omega), es 5 (by omega)]; exact r5
    · rw [gw_up_ne (by omega), gw_up_ne (by omega), gw_up_ne (by omega)]
      unfold sp_dr sp_op
      rw [es _ (by omega), es _ (by omega), es _ (by omega)]
      exact rD d hd
    · rw [gw_up_ne (by omega), gw_up_ne (by omega), gw_up_ne (by omega)]
      unfold sp_sg
      rw [es _ (by omega), es _ (by omega), es _ (by omega)]
      exact rS i hi
    · rw [gw_up_ne (by omega), gw_up_ne (by omega), gw_up_ne (by omega), gw_up_ne (by omega), gw_up_ne (by omega), gw_up_ne (by omega)]
      by_cases y : j = nh
      · subst y
        obtain ⟨q0, q1, q2, q3, q4, q5⟩ := sp_ah_h (σ := σ) (nh := j) (k := k) (r := r) (q := q)
        rw [q0, q1, q2, q3, q4, q5]
        exact ⟨z10, z11, z12, z13, z14, z15⟩
      · unfold sp_hd
        rw [es _ (by omega), es _ (by omega), es _ (by omega), es _ (by omega), es _ (by omega), es _ (by omega)]
        exact rH j (by omega)
end TX1
