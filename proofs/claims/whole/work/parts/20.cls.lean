/-! the class's writes to a head -/
theorem gw_ext {f g : Nat → Int32} (h : ∀ i, f i = g i) : f = g := funext h
theorem sp_upd_id {σ : Nat → Int32} {k : Nat} {v : Int32} (h : σ k = v) : upd σ k v = σ := by
  funext i; unfold upd; split
  · rename_i e; rw [e, h]
  · rfl
section CHEAD
variable {h : gw_H} {Q : Int32 → gw_H → Prop} {b : Nat} {σ : Nat → Int32} {nd ns nh hr : Nat}
theorem rc_C.irr (hR : rc_C b h σ nd ns nh) {c i : Nat} {x : Int32} (hc : ∀ k, k < 16 → c ≠ b + k) : rc_C b (gw_up h c i x) σ nd ns nh :=
  hR.congr (fun k hk => gw_up_ne (fun e => hc k hk e.symm))
theorem rc_C.hput (hR : rc_C b h σ nd ns nh) (h8 : nd ≤ 8) (h5 : ns ≤ 5) {k : Nat} (hk : k < 6) {c : Nat} (hc : c = b + (10 + k)) (j : Nat) (v : Int32) : rc_C b (gw_up h c j v) (upd σ (37 + 6 * j + k) v) nd ns nh := by
  obtain ⟨⟨a0, a1, a2, a3, a4⟩, hD, hS, hH⟩ := hR
  have key : ∀ k', k' < 6 → ∀ j', h (b + (10 + k')) j' = sp_hd σ j' k' → gw_up h c j v (b + (10 + k')) j' = sp_hd (upd σ (37 + 6 * j + k) v) j' k' := by
    intro k' hk' j' e
    rw [gw_up_r, sp_hdu hk hk', e]
    by_cases q : j' = j ∧ k' = k
    · rw [if_pos q, if_pos ⟨by omega, q.1⟩]
    · rw [if_neg q, if_neg (fun z => q ⟨z.2, by omega⟩)]
  have lo : ∀ k', k' < 10 → gw_up h c j v (b + k') = h (b + k') := fun k' hk' => gw_up_ne (by omega)
  have l0 : gw_up h c j v b = h b := lo 0 (by omega)
  refine ⟨⟨by rw [lo 1 (by omega), a0, sp_lo (by omega)], by rw [lo 5 (by omega), a1, sp_lo (by omega)], by rw [lo 9 (by omega), a2, sp_lo (by omega)], by rw [l0, a3, sp_lo (by omega)], by rw [l0, a4, sp_lo (by omega)]⟩, fun d hd => ?_, fun i hi => ?_, fun j' hj' => ?_⟩
  · rw [lo 2 (by omega), lo 3 (by omega), lo 4 (by omega), sp_dru (by omega) (by omega), sp_dru (by omega) (by omega)]
    have e : sp_op (upd σ (37 + 6 * j + k) v) d = sp_op σ d := by unfold sp_op; rw [sp_lo (by omega)]
    rw [e]; exact hD d hd
  · rw [lo 6 (by omega), lo 7 (by omega), lo 8 (by omega), sp_sgu (by omega) (by omega), sp_sgu (by omega) (by omega), sp_sgu (by omega) (by omega)]
    exact hS i hi
  · obtain ⟨g0, g1, g2, g3, g4, g5⟩ := hH j' hj'
    exact ⟨key 0 (by omega) j' g0, key 1 (by omega) j' g1, key 2 (by omega) j' g2, key 3 (by omega) j' g3, key 4 (by omega) j' g4, key 5 (by omega) j' g5⟩
/-- but for the cells of song, strength, giver, first and there but for head j nothing changes -/
def rc_T (b j : Nat) (h h' : gw_H) : Prop := (∀ c, c ≠ b + 13 → c ≠ b + 14 → c ≠ b + 16 → c ≠ b + 17 → h' c = h c) ∧ ∀ c i, i ≠ j → h' c i = h c i
theorem rc_T.of4 {j : Nat} {v1 v2 v3 v4 : Int32} : rc_T b j h (gw_up (gw_up (gw_up (gw_up h (b + 13) j v1) (b + 14) j v2) (b + 16) j v3) (b + 17) j v4) := by
  refine ⟨fun c h1 h2 h3 h4 => ?_, fun c i hi => ?_⟩
  · rw [gw_up_ne h4, gw_up_ne h3, gw_up_ne h2, gw_up_ne h1]
  · rw [gw_up_r, if_neg (fun z => hi z.2), gw_up_r, if_neg (fun z => hi z.2), gw_up_r, if_neg (fun z => hi z.2), gw_up_r, if_neg (fun z => hi z.2)]
theorem c_lo {p : Int32} (j : Nat) (hp : p = nI j) (hj : j < 6) (hq : Q 0 (gw_up (gw_up (gw_up (gw_up h (b + 13) j (-9)) (b + 14) j 0) (b + 16) j (-9)) (b + 17) j (-9))) : wp_X1_lose h b p Q := by
  unfold wp_X1_lose
  exact c_put j hp hj (by omega) (c_put j hp hj (by omega) (c_put j hp hj (by omega) (c_put j hp hj (by omega) hq)))
theorem c_rc {p s f g o : Int32} (j : Nat) (hp : p = nI j) (hj : j < 6) (hq : Q 0 (gw_up (gw_up (gw_up (gw_up h (b + 13) j s) (b + 14) j f) (b + 16) j g) (b + 17) j o)) : wp_X1_receive h b p s f g o Q := by
  unfold wp_X1_receive
  exact c_put j hp hj (by omega) (c_put j hp hj (by omega) (c_put j hp hj (by omega) (c_put j hp hj (by omega) hq)))
theorem rc_C.gt4 (hR : rc_C b h σ nd ns nh) (h8 : nd ≤ 8) (h5 : ns ≤ 5) (j : Nat) {s f g o : Int32} : rc_C b (gw_up (gw_up (gw_up (gw_up h (b + 13) j s) (b + 14) j f) (b + 16) j g) (b + 17) j o) (upd (upd σ (37 + 6 * j + 3) s) (37 + 6 * j + 4) f) nd ns nh :=
  (((hR.hput h8 h5 (k := 3) (by omega) rfl j s).hput h8 h5 (k := 4) (by omega) rfl j f).irr (fun k hk => by omega)).irr (fun k hk => by omega)
/-- a head's strength becomes less -/
theorem c_wk (hR : rc_C b h σ nd ns nh) (h8 : nd ≤ 8) (h5 : ns ≤ 5) (h6 : nh ≤ 6) {p less : Int32} (j : Nat) (hp : p = nI j) (hj : j < nh)
    (hq : ∀ h', rc_C b h' (sp_sv σ j (if sp_hd σ j 4 - less < 60 then sp_hd σ j 4 - less else 60)) nd ns nh → rc_T b j h h' → (0 ≤ sp_hd (sp_sv σ j (if sp_hd σ j 4 - less < 60 then sp_hd σ j 4 - less else 60)) j 3 → h' (b + 16) j = h (b + 16) j ∧ h' (b + 17) j = h (b + 17) j) → ((if sp_hd σ j 4 - less < 60 then sp_hd σ j 4 - less else 60) ≤ 0 → h' (b + 16) j = -9 ∧ h' (b + 17) j = -9) → Q 0 h') : wp_X1_weaken h b p less Q := by
  unfold wp_X1_weaken
  refine c_at j hp (by omega) (by omega) ?_
  rw [(hR.2.2.2 j hj).2.2.2.2.1]
  revert hq
  generalize (if sp_hd σ j 4 - less < 60 then sp_hd σ j 4 - less else 60) = v
  intro hq
  refine br_c (fun c => c_lo j hp (by omega) (hq _ ?_ rc_T.of4 (fun z => ?_) (fun _ => ⟨by rw [gw_up_ne (by omega), gw_up_ee], gw_up_ee⟩))) (fun c => c_put j hp (by omega) (by omega) (hq _ ?_ ?_ (fun _ => ⟨?_, ?_⟩) (fun z => absurd z c)))
  · unfold sp_sv; rw [if_pos c, sp_gtn]
    exact hR.gt4 h8 h5 j
  · exfalso
    unfold sp_sv at z; rw [if_pos c, sp_gthd _ _ (by omega), if_pos ⟨rfl, rfl⟩, if_pos n9_lt] at z
    exact n9_neg z
  · unfold sp_sv; rw [if_neg c]
    exact hR.hput h8 h5 (k := 4) (by omega) rfl j v
  · exact ⟨fun c' h1 h2 h3 h4 => gw_up_ne h2, fun c' i hi => by rw [gw_up_r, if_neg (fun z => hi z.2)]⟩
  · rw [gw_up_ne (by omega)]
  · rw [gw_up_ne (by omega)]
theorem c_sub2 (a x y : Int32) : a - (x + y) = a - x - y := by
  rw [Int32.sub_eq_add_neg, Int32.sub_eq_add_neg, Int32.sub_eq_add_neg, Int32.neg_add, Int32.sub_eq_add_neg, Int32.add_assoc]
theorem c_min (x : Int32) : (if x < 60 then x else 60) = if 60 < x then 60 else x := by
  by_cases h : x < 60
  · rw [if_pos h, if_neg (by rw [Int32.lt_iff_toInt_lt] at h ⊢; omega)]
  · rw [if_neg h]
    by_cases g : 60 < x
    · rw [if_pos g]
    · rw [if_neg g]
      apply Int32.toInt_inj.mp
      rw [Int32.lt_iff_toInt_lt] at h g
      omega
/-- his song fades -/
theorem c_wa (hW : sp_WF σ nd ns nh hr) (hR : rc_C b h σ nd ns nh) {p p' : Int32} (j : Nat) (hp : p = nI j) (hp' : p' = nI j) (hj : j < nh)
    (hq : ∀ h', rc_C b h' (sp_wa σ j) nd ns nh → rc_T b j h h' → (0 ≤ sp_hd (sp_wa σ j) j 3 → h' (b + 16) j = h (b + 16) j ∧ h' (b + 17) j = h (b + 17) j) → (sp_hd (sp_wa σ j) j 3 = -9 → h' (b + 16) j = -9 ∧ h' (b + 17) j = -9) → Q 0 h') : wp_X2_weakening h b p (fun r h1 => wp_X1_weaken h1 b p' r Q) := by
  have hW' := hW
  obtain ⟨⟨h8, h5, h6, -⟩, ⟨-, e2, -, e4⟩, -, -, -, hS, hH⟩ := hW
  have r2 := hR.1.2.1
  rw [e2] at r2
  have r4 := hR.1.2.2.2.1
  unfold wp_X2_weakening
  refine c_at j hp (by omega) (by omega) (c_at j hp (by omega) (by omega) ?_)
  rw [(hR.2.2.2 j hj).2.2.2.1, (hR.2.2.2 j hj).2.2.2.2.2]
  have key : ∀ s, s = (if 0 < sp_hd σ j 5 then (1 : Int32) else 0) → wk_X2_weakening_31 b p (fun r h1 => wp_X1_weaken h1 b p' r Q) (sp_hd σ j 3) s h := by
    intro s hs
    unfold wk_X2_weakening_31
    rcases (hH j hj).2.2.2.1 with ⟨q1, q2⟩ | ⟨i, hi, q1⟩
    · rw [q1]
      refine c_sh r2 (by omega) (fun _ => br_t rfl ?_) (fun k hk q => absurd q.symm (n9_ne (by omega)))
      refine c_wk hR h8 h5 h6 j hp' hj (fun h' a1 a2 a3 a4 => hq h' ?_ a2 (fun z => ?_) (fun _ => a4 (by rw [q2]; decide)))
      · have e : sp_sv σ j (if sp_hd σ j 4 - 0 < 60 then sp_hd σ j 4 - 0 else 60) = sp_wa σ j := by
          unfold sp_wa
          rw [q1, if_pos n9_lt, q2, show (if (0 : Int32) - 0 < 60 then (0 : Int32) - 0 else 60) = 0 from by decide]
          unfold sp_sv
          have u1 : upd σ (37 + 6 * j + 3) (-9) = σ := sp_upd_id q1
          have u2 : upd σ (37 + 6 * j + 4) 0 = σ := sp_upd_id q2
          rw [if_pos (by decide), sp_gtn, u1, u2]
        rw [e] at a1; exact a1
      · exfalso
        unfold sp_wa at z
        rw [q1, if_pos n9_lt, q1] at z
        exact n9_neg z
    · rw [q1]
      refine c_sh r2 (by omega) (fun q => c_nr rfl hi (by omega) q) (fun _ _ _ => br_f (by decide) ?_)
      refine c_fd hW' hR r4 i rfl hi ?_
      refine c_wk hR h8 h5 h6 j hp' hj (fun h' a1 a2 a3 a4 => ?_)
      have a5 : sp_hd (sp_sv σ j (if sp_hd σ j 4 - (sp_fd σ i + s) < 60 then sp_hd σ j 4 - (sp_fd σ i + s) else 60)) j 3 = -9 → h' (b + 16) j = -9 ∧ h' (b + 17) j = -9 := by
        intro z
        refine a4 ?_
        unfold sp_sv at z
        by_cases c : (if sp_hd σ j 4 - (sp_fd σ i + s) < 60 then sp_hd σ j 4 - (sp_fd σ i + s) else 60) ≤ 0
        · exact c
        · rw [if_neg c, sp_hdu (by omega) (by omega), if_neg (fun w => by omega), q1] at z
          exact absurd z (n9_ne (by omega))
      have e : sp_sv σ j (if sp_hd σ j 4 - (sp_fd σ i + s) < 60 then sp_hd σ j 4 - (sp_fd σ i + s) else 60) = sp_wa σ j := by
        unfold sp_wa
        rw [q1, if_neg (nI_pos (by omega)), c_min]
        unfold sp_wv
        rw [q1, nI_clamp (by omega), c_sub2, hs]
      rw [e] at a1 a3 a5
      exact hq h' a1 a2 a3 a5
  refine br_c (fun c => key 0 ?_) (fun c => key 1 ?_)
  · rw [if_neg (Int32.not_lt.mpr c)]
  · rw [if_pos (Int32.not_le.mp c)]
/-- he chews -/
theorem c_ch (hW : sp_WF σ nd ns nh hr) (hR : rc_C b h σ nd ns nh) {p : Int32} (j : Nat) (hp : p = nI j) (hj : j < nh)
    (hq : ∀ h', rc_C b h' (sp_ch σ j) nd ns nh → (∀ c, c ≠ b + 15 → h' c = h c) → Q 0 h') : wp_X1_chew h b p Q := by
  obtain ⟨⟨h8, h5, h6, -⟩, -⟩ := hW.1 |> fun x => (⟨x, trivial⟩ : _ ∧ True)
  obtain ⟨g, g1, g2⟩ := (hW.hw hj).2.2.2.2.2
  unfold wp_X1_chew
  refine c_at j hp (by omega) (by omega) ?_
  rw [(hR.2.2.2 j hj).2.2.2.2.2]
  refine c_put j hp (by omega) (by omega) (hq _ ?_ (fun c hc => gw_up_ne hc))
  have e : sp_ch σ j = upd σ (37 + 6 * j + 5) (if 0 < sp_hd σ j 5 - 1 then sp_hd σ j 5 - 1 else 0) := by
    unfold sp_ch
    rw [g2]
    have hg : g = 0 ∨ g = 1 ∨ g = 2 ∨ g = 3 := by omega
    rcases hg with rfl | rfl | rfl | rfl
    · rw [if_neg (by decide), if_neg (by decide)]
      exact (sp_upd_id (by unfold sp_hd at g2; exact g2)).symm
    · rw [if_pos (by decide), if_neg (by decide)]; rfl
    · rw [if_pos (by decide), if_pos (by decide)]
    · rw [if_pos (by decide), if_pos (by decide)]
  rw [e]
  exact hR.hput h8 h5 (k := 5) (by omega) rfl j _
end CHEAD
