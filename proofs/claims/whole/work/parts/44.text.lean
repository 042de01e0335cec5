/-! ## letters, the reference's side -/
def ux_T (h : gw_H) (n : Nat) (w : Nat → Nat) (s : Nat) : Prop := n ≤ 96 ∧ h 0 13 = nI n ∧ h 0 14 = nI s ∧ ∀ k, k < n → w k < 256 ∧ h 11 k = nI (w k)
/-- reading changes the place and what was told -/
def ux_F (h h' : gw_H) : Prop := (∀ c, c ≠ 0 → c ≠ 12 → h' c = h c) ∧ ∀ j, j ≠ 14 → h' 0 j = h 0 j
theorem ux_F.refl {h : gw_H} : ux_F h h := ⟨fun _ _ _ => rfl, fun _ _ => rfl⟩
theorem ux_F.trans {h h1 h2 : gw_H} (a : ux_F h h1) (b : ux_F h1 h2) : ux_F h h2 := ⟨fun c x y => (b.1 c x y).trans (a.1 c x y), fun j x => (b.2 j x).trans (a.2 j x)⟩
theorem ux_F.pl {h : gw_H} {x : Int32} : ux_F h (gw_up h 0 14 x) := ⟨fun c a _ => gw_up_ne a, fun j a => gw_up_en a⟩
theorem ux_F.to {h : gw_H} {i : Nat} {x : Int32} : ux_F h (gw_up h 12 i x) := ⟨fun c _ a => gw_up_ne a, fun j _ => by rw [gw_up_ne (by omega)]⟩
/-- what is told of a statement -/
def tx_t (n : Nat) (w : Nat → Nat) (s k : Nat) : Nat :=
  if w s = 104 then (if k = 0 then tx_kH (w (s + 1)) else w (s + 1 + k) - 48) else if w s = 115 then (if k = 0 then tx_kS (w (s + 1)) else w (s + 1 + k) - 48) else if w s = 111 then (if tx_n n w (s + 1) = 2 then 10 * (w (s + 1) - 48) + (w (s + 2) - 48) else w (s + 1) - 48) else w (s + 1 + k) - 48
def tx_tn (w : Nat → Nat) (s : Nat) : Nat := if w s = 104 then 3 else if w s = 115 then 3 else if w s = 111 then 1 else 2
section UX
variable {h : gw_H} {Q : Int32 → gw_H → Prop} {n : Nat} {w : Nat → Nat} {s : Nat}
theorem ux_T.mv (T : ux_T h n w s) {h' : gw_H} {s' : Nat} (F : ux_F h h') (e : h' 0 14 = nI s') : ux_T h' n w s' :=
  ⟨T.1, by rw [F.2 13 (by omega)]; exact T.2.1, e, by rw [F.1 11 (by omega) (by omega)]; exact T.2.2.2⟩
theorem u_sg (T : ux_T h n w s) (hs : s < 1000) (hq : Q (if s < n then nI (w s) else -1) h) : wp_X6_sign h Q := by
  obtain ⟨t1, t2, t3, t4⟩ := T
  unfold wp_X6_sign
  rw [t3]
  refine pk_le n s (fun g => ?_) (fun g => ⟨vp_in_nI (by omega) (by omega), ?_⟩) t2 rfl (by omega) (by omega)
  · rw [if_neg (by omega)] at hq; exact hq
  · rw [if_pos g] at hq
    rw [nI_clamp (by omega), (t4 s g).2]; exact hq
theorem u_in (T : ux_T h n w s) (f : ¬ tx_d n w s = true → Q 0 h) (g : tx_d n w s = true → Q 1 h) : wp_X6_isIn h ((if s < n then nI (w s) else -1) - 48) 10 Q := by
  have dd : s < n → (tx_d n w s = true ↔ 48 ≤ w s ∧ w s ≤ 57) := fun g0 => by
    unfold tx_d
    rw [decide_eq_true g0, Bool.true_and]
    simp only [Bool.and_eq_true, decide_eq_true_eq]
  by_cases g0 : s < n
  · rw [if_pos g0]
    have hb := (T.2.2.2 s g0).1
    by_cases g1 : 48 ≤ w s
    · rw [show (48 : Int32) = nI 48 from rfl, pk_sub g1]
      refine m_in (n := 10) rfl (by omega) (fun c => f (fun z => ?_)) (fun j hj e => g ((dd g0).mpr ?_))
      · have := (dd g0).mp z
        exact c_nr (n := 10) rfl (by omega) (by omega) c
      · have := (nI_eq (by omega) (by omega)).mp e
        omega
    · refine m_in (n := 10) rfl (by omega) (fun c => f (fun z => ?_)) (fun j hj e => ?_)
      · have := (dd g0).mp z; omega
      · exfalso
        have := pk_sneg (a := w s) (b := 48) (by omega) (by omega)
        rw [show nI 48 = (48 : Int32) from rfl, e] at this
        exact nI_pos (by omega) this
  · rw [if_neg g0]
    refine m_in (n := 10) rfl (by omega) (fun c => f (fun z => ?_)) (fun j hj e => ?_)
    · unfold tx_d at z; rw [decide_eq_false g0] at z; exact absurd z (by simp)
    · exfalso
      have : ((-1 : Int32) - 48) < 0 := by decide
      rw [e] at this
      exact nI_pos (by omega) this
theorem tx_d_w {k : Nat} (h : tx_d n w k = true) : k < n ∧ 48 ≤ w k ∧ w k ≤ 57 := by
  unfold tx_d at h
  simp only [Bool.and_eq_true, decide_eq_true_eq] at h
  exact h
/-- how many digits are read of at most so many -/
def tx_c (n : Nat) (w : Nat → Nat) (s most : Nat) : Nat := if most = 1 then (if tx_d n w s then 1 else 0) else tx_n n w s
def tx_v (n : Nat) (w : Nat → Nat) (s most : Nat) : Nat := if tx_c n w s most = 2 then 10 * (w s - 48) + (w (s + 1) - 48) else w s - 48
theorem u_rn (T : ux_T h n w s) (hs : s < 900) {k most : Nat} (hk : k < 3) (hm : most = 1 ∨ most = 2) {p1 p2 : Int32} (e1 : p1 = nI k) (e2 : p2 = nI most)
    (hq : ∀ h', ux_F h h' → (∀ i, i ≠ k → h' 12 i = h 12 i) → h' 0 14 = nI (s + tx_c n w s most) → (0 < tx_c n w s most → h' 12 k = nI (tx_v n w s most)) → Q (if 0 < tx_c n w s most then 1 else 0) h') : wp_X6_readsNumber h p1 p2 Q := by
  have h96 := T.1
  subst e1 e2
  have vk : vp_in (nI k) 3 := vp_in_nI hk (by omega)
  have ck : (nI k).toNatClampNeg = k := nI_clamp (by omega)
  unfold wp_X6_readsNumber
  rw [ck]
  refine ⟨vk, 3, ?_⟩
  -- the end, with c digits
  have fin : ∀ c h', c = tx_c n w s most → ux_F h h' → (∀ i, i ≠ k → h' 12 i = h 12 i) → h' 0 14 = nI (s + c) → (0 < c → h' 12 k = nI (tx_v n w s most)) → c < 3 → wk_X6_readsNumber_68 (nI k) (nI most) Q (nI c) h' := by
    intro c h' hc F f1 f2 f3 f4
    unfold wk_X6_readsNumber_68
    have := hq h' F f1 (by rw [← hc]; exact f2) (by rw [← hc]; exact f3)
    rw [← hc] at this
    refine pk_le c 0 (fun g => ?_) (fun g => ?_) rfl rfl (by omega) (by omega)
    · rw [if_neg (by omega)] at this; exact this
    · rw [if_pos g] at this; exact this
  have T0 : ux_T (gw_up h 12 k 0) n w s := T.mv ux_F.to (by rw [gw_up_ne (by omega)]; exact T.2.2.1)
  have F0 : ux_F h (gw_up h 12 k 0) := ux_F.to
  unfold wl_X6_readsNumber_9
  refine br_f (nI_ge (a := 0) (by omega) (by omega)) (u_sg T0 (by omega) (u_in T0 (fun g => br_t rfl ?_) (fun g => br_f rr_dec1 ⟨vk, u_sg T0 (by omega) ⟨vk, ?_⟩⟩)))
  · refine fin 0 _ ?_ F0 (fun i hi => gw_up_en hi) T0.2.2.1 (fun z => by omega) (by omega)
    unfold tx_c tx_n
    rw [if_neg g, if_neg g]
    rcases hm with rfl | rfl <;> rfl
  · obtain ⟨g1, g2, g3⟩ := tx_d_w g
    rw [if_pos g1, ck, gw_up_ee, gw_up_ne (c := 12) (by omega), T0.2.2.1, nI_1]
    have a0 : (10 * 0 + nI (w s)) - 48 = nI (w s - 48) := by
      rw [show (10 : Int32) * 0 = nI 0 from rfl, nI_add, Nat.zero_add, show (48 : Int32) = nI 48 from rfl, pk_sub g2]
    rw [a0]
    have F1 : ux_F h (gw_up (gw_up (gw_up h 12 k 0) 12 k (nI (w s - 48))) 0 14 (nI (s + 1))) := F0.trans (ux_F.to.trans ux_F.pl)
    have T1 : ux_T (gw_up (gw_up (gw_up h 12 k 0) 12 k (nI (w s - 48))) 0 14 (nI (s + 1))) n w (s + 1) := T.mv F1 gw_up_ee
    have k1 : gw_up (gw_up (gw_up h 12 k 0) 12 k (nI (w s - 48))) 0 14 (nI (s + 1)) 12 k = nI (w s - 48) := by
      rw [gw_up_ne (by omega), gw_up_ee]
    have i1 : ∀ i, i ≠ k → gw_up (gw_up (gw_up h 12 k 0) 12 k (nI (w s - 48))) 0 14 (nI (s + 1)) 12 i = h 12 i := fun i hi => by
      rw [gw_up_ne (by omega), gw_up_en hi, gw_up_en hi]
    generalize gw_up (gw_up (gw_up h 12 k 0) 12 k (nI (w s - 48))) 0 14 (nI (s + 1)) = h1 at *
    unfold wl_X6_readsNumber_9
    rcases hm with rfl | rfl
    · refine br_t (by decide) (fin 1 h1 ?_ F1 i1 T1.2.2.1 (fun _ => ?_) (by omega))
      · unfold tx_c; rw [if_pos rfl, if_pos g]
      · rw [k1]; unfold tx_v tx_c; rw [if_pos rfl, if_pos g, if_neg (by omega)]
    · refine br_f (nI_ge (a := 1) (b := 2) (by omega) (by omega)) (u_sg T1 (by omega) (u_in T1 (fun y => br_t rfl ?_) (fun y => br_f rr_dec1 ⟨vk, u_sg T1 (by omega) ⟨vk, ?_⟩⟩)))
      · refine fin 1 h1 ?_ F1 i1 T1.2.2.1 (fun _ => ?_) (by omega)
        · unfold tx_c tx_n; rw [if_neg (by omega), if_pos g, if_neg y]
        · rw [k1]; unfold tx_v tx_c tx_n; rw [if_neg (show ¬ 2 = 1 by omega), if_pos g, if_neg y, if_neg (by omega)]
      · obtain ⟨y1, y2, y3⟩ := tx_d_w y
        rw [if_pos y1, ck, k1, gw_up_ne (c := 12) (by omega), T1.2.2.1, nI_1]
        have a1 : (10 * nI (w s - 48) + nI (w (s + 1))) - 48 = nI (10 * (w s - 48) + (w (s + 1) - 48)) := by
          rw [show (10 : Int32) = nI 10 from rfl, pk_mul, nI_add, show (48 : Int32) = nI 48 from rfl, pk_sub (by omega)]
          congr 1; omega
        rw [a1]
        unfold wl_X6_readsNumber_9
        refine br_t (by decide) (fin 2 _ ?_ (F1.trans (ux_F.to.trans ux_F.pl)) (fun i hi => ?_) gw_up_ee (fun _ => ?_) (by omega))
        · unfold tx_c tx_n; rw [if_neg (by omega), if_pos g, if_pos y]
        · rw [gw_up_ne (by omega), gw_up_en hi]; exact i1 i hi
        · rw [gw_up_ne (by omega), gw_up_ee]
          unfold tx_v tx_c tx_n; rw [if_neg (show ¬ 2 = 1 by omega), if_pos g, if_pos y, if_pos rfl]
/-! the end of a statement -/
theorem u_fin (T : ux_T h n w s) (hs : s < 900) (hq : ∀ h', ux_F h h' → h' 12 = h 12 → (s < n ∧ w s = 59 → h' 0 14 = nI (s + 1)) → (¬ (s < n ∧ w s = 59) → h' 0 14 = nI s) → Q (if s < n ∧ w s = 59 then 1 else 0) h') : wk_X6_readsStatement_147 Q 1 h := by
  unfold wk_X6_readsStatement_147
  refine br_f rr_dec1 ?_
  unfold wp_X6_takes
  refine u_sg T (by omega) ?_
  have no : ¬ (s < n ∧ w s = 59) → Q 0 h := fun g => by
    have := hq h ux_F.refl rfl (fun z => absurd z g) (fun _ => T.2.2.1)
    rw [if_neg g] at this; exact this
  by_cases g : s < n
  · rw [if_pos g]
    have hb := (T.2.2.2 s g).1
    refine pk_eq (w s) 59 (fun z => br_f rr_dec1 ?_) (fun z => br_t rfl (no (fun y => z y.2))) rfl rfl (by omega) (by omega)
    rw [T.2.2.1, nI_1]
    have := hq _ ux_F.pl (gw_up_ne (by omega)) (fun _ => gw_up_ee) (fun y => absurd ⟨g, z⟩ y)
    rw [if_pos ⟨g, z⟩] at this
    exact this
  · rw [if_neg g]
    exact br_f (by decide) (br_t rfl (no (fun y => g y.1)))
theorem u_0 {h' : gw_H} (q : Q 0 h') : wk_X6_readsStatement_147 Q 0 h' := by
  unfold wk_X6_readsStatement_147; exact br_t rfl q
theorem u_e2 {p : Nat} (T : ux_T h n w p) (hp : p < 800) {kA kB : Nat} (hA : kA < 3) (hB : kB < 3) (hAB : kA ≠ kB) {p1 p2 : Int32} (e1 : p1 = nI kA) (e2 : p2 = nI kB)
    (hq : ∀ h', ux_F h h' → h' 0 14 = nI (tx_e n w 2 p).2 → ((tx_e n w 2 p).1 = true → h' 12 kA = nI (w p - 48) ∧ h' 12 kB = nI (w (p + 1) - 48) ∧ ∀ i, i ≠ kA → i ≠ kB → h' 12 i = h 12 i) → Q (if (tx_e n w 2 p).1 then 1 else 0) h') :
    wp_X6_readsNumber h p1 1 (fun r h1 => (r = 0 → wk_X6_readsStatement_147 Q 0 h1) ∧ (¬ r = 0 → wp_X6_readsNumber h1 p2 1 (fun r' h2 => (r' = 0 → wk_X6_readsStatement_147 Q 0 h2) ∧ (¬ r' = 0 → wk_X6_readsStatement_147 Q 1 h2)))) := by
  have c1 : ∀ s, tx_c n w s 1 = if tx_d n w s then 1 else 0 := fun s => by unfold tx_c; rw [if_pos rfl]
  have v1 : ∀ s, tx_v n w s 1 = w s - 48 := fun s => by
    unfold tx_v; rw [c1]
    by_cases g : tx_d n w s = true
    · rw [if_pos g, if_neg (by omega)]
    · rw [if_neg g, if_neg (by omega)]
  refine u_rn T (by omega) (most := 1) hA (Or.inl rfl) e1 rfl (fun h1 F1 i1 s1 d1 => ?_)
  rw [c1] at s1 d1 ⊢
  by_cases g : tx_d n w p = true
  · rw [if_pos g] at s1 d1 ⊢
    rw [if_pos (by omega)]
    refine br_f rr_dec1 (u_rn (T.mv F1 s1) (by omega) (most := 1) hB (Or.inl rfl) e2 rfl (fun h2 F2 i2 s2 d2 => ?_))
    rw [c1] at s2 d2 ⊢
    have dA := d1 (by omega)
    rw [v1] at dA
    by_cases g2 : tx_d n w (p + 1) = true
    · rw [if_pos g2] at s2 d2 ⊢
      rw [if_pos (by omega)]
      have dB := d2 (by omega)
      rw [v1] at dB
      have en : tx_n n w p = 2 := by unfold tx_n; rw [if_pos g, if_pos g2]
      refine br_f rr_dec1 (u_fin (T.mv (F1.trans F2) s2) (by omega) (fun h3 F3 x3 y3 z3 => ?_))
      have := hq h3 (F1.trans (F2.trans F3))
      unfold tx_e at this
      rw [en, if_neg (by omega)] at this
      by_cases q : p + 2 < n ∧ w (p + 2) = 59
      · rw [if_pos q] at this ⊢
        exact this (y3 q) (fun _ => ⟨by rw [x3, i2 _ hAB]; exact dA, by rw [x3]; exact dB, fun i a b => by rw [x3, i2 i b, i1 i a]⟩)
      · rw [if_neg q] at this ⊢
        exact this (z3 q) (fun z => absurd z (by simp))
    · rw [if_neg g2] at s2 d2 ⊢
      rw [if_neg (by omega)]
      have en : tx_n n w p = 1 := by unfold tx_n; rw [if_pos g, if_neg g2]
      have := hq h2 (F1.trans F2)
      unfold tx_e at this
      rw [en, if_pos (by omega)] at this
      exact br_t rfl (u_0 (this s2 (fun z => absurd z (by simp))))
  · rw [if_neg g] at s1 d1 ⊢
    rw [if_neg (by omega)]
    have en : tx_n n w p = 0 := by unfold tx_n; rw [if_neg g]
    have := hq h1 F1
    unfold tx_e at this
    rw [en, if_pos (by omega)] at this
    exact br_t rfl (u_0 (this s1 (fun z => absurd z (by simp))))
theorem u_e1 {p : Nat} (T : ux_T h n w p) (hp : p < 800)
    (hq : ∀ h', ux_F h h' → h' 0 14 = nI (tx_e n w 1 p).2 → ((tx_e n w 1 p).1 = true → h' 12 0 = nI (tx_v n w p 2)) → Q (if (tx_e n w 1 p).1 then 1 else 0) h') :
    wp_X6_readsNumber h 0 2 (fun r h1 => wk_X6_readsStatement_147 Q r h1) := by
  have c2 : tx_c n w p 2 = tx_n n w p := by unfold tx_c; rw [if_neg (by omega)]
  refine u_rn T (by omega) (k := 0) (most := 2) (by omega) (Or.inr rfl) rfl rfl (fun h1 F1 i1 s1 d1 => ?_)
  rw [c2] at s1 d1 ⊢
  have n2 : tx_n n w p ≤ 2 := by
    unfold tx_n
    split
    · split <;> omega
    · omega
  by_cases g : 0 < tx_n n w p
  · rw [if_pos g]
    refine u_fin (T.mv F1 s1) (by omega) (fun h3 F3 x3 y3 z3 => ?_)
    have := hq h3 (F1.trans F3)
    unfold tx_e at this
    rw [if_neg (by omega)] at this
    by_cases q : p + tx_n n w p < n ∧ w (p + tx_n n w p) = 59
    · rw [if_pos q] at this ⊢
      exact this (y3 q) (fun _ => by rw [x3]; exact d1 g)
    · rw [if_neg q] at this ⊢
      exact this (z3 q) (fun z => absurd z (by simp))
  · rw [if_neg g]
    have := hq h1 F1
    unfold tx_e at this
    rw [if_pos (by omega)] at this
    exact u_0 (this s1 (fun z => absurd z (by simp)))
theorem u_kd {p kd : Nat} (T : ux_T h n w p) (hp : p < 700) {p1 : Int32} (e1 : p1 = if p < n ∧ kd < 6 then nI kd else -9)
    (hq : ∀ h', ux_F h h' → h' 0 14 = nI (if p < n ∧ kd < 6 then tx_e n w 2 (p + 1) else (false, p)).2 → ((if p < n ∧ kd < 6 then tx_e n w 2 (p + 1) else (false, p)).1 = true → h' 12 0 = nI kd ∧ h' 12 1 = nI (w (p + 1) - 48) ∧ h' 12 2 = nI (w (p + 2) - 48)) → Q (if (if p < n ∧ kd < 6 then tx_e n w 2 (p + 1) else (false, p)).1 then 1 else 0) h') :
    wp_X6_readsKind h p1 (fun r_21 h_20 => (wk_X6_readsStatement_147 Q r_21 h_20)) := by
  unfold wp_X6_readsKind
  by_cases g : p < n ∧ kd < 6
  · rw [if_pos g] at e1 hq
    subst e1
    refine br_t (nI_pos' (by omega)) ?_
    rw [gw_up_ne (c := 12) (by omega), T.2.2.1, nI_1]
    have F : ux_F h (gw_up (gw_up h 12 0 (nI kd)) 0 14 (nI (p + 1))) := ux_F.to.trans ux_F.pl
    refine u_e2 (T.mv F gw_up_ee) (by omega) (kA := 1) (kB := 2) (by omega) (by omega) (by omega) rfl rfl (fun h' F' s' d' => hq h' (F.trans F') s' (fun z => ?_))
    obtain ⟨d1, d2, d3⟩ := d' z
    refine ⟨?_, d1, d2⟩
    rw [d3 0 (by omega) (by omega), gw_up_ne (by omega), gw_up_ee]
  · rw [if_neg g] at e1 hq
    subst e1
    have := hq _ (ux_F.to (i := 0) (x := -9)) (by rw [gw_up_ne (by omega)]; exact T.2.2.1) (fun z => absurd z (by simp))
    exact br_f (by decide) (u_0 this)
theorem u_so {v : Nat} {p : Int32} {g : Prop} [Decidable g] (hv : v < 256) (hp : p = if g then nI v else -1) (hq : Q (if g ∧ tx_kS v < 6 then nI (tx_kS v) else -9) h) : wp_X6_songOf h p Q := by
  unfold wp_X6_songOf
  by_cases c : g
  · rw [if_pos c] at hp
    subst hp
    unfold tx_kS at hq
    refine pk_ne v 115 (fun z => pk_ne v 108 (fun z1 => pk_ne v 113 (fun z2 => pk_ne v 99 (fun z3 => pk_ne v 106 (fun z4 => pk_ne v 104 (fun z5 => ?_) (fun z5 => ?_) rfl rfl) (fun z4 => ?_) rfl rfl) (fun z3 => ?_) rfl rfl) (fun z2 => ?_) rfl rfl) (fun z1 => ?_) rfl rfl) (fun z => ?_) rfl rfl
    · rw [if_neg z, if_neg z1, if_neg z2, if_neg z3, if_neg z4, if_neg z5, if_neg (by omega)] at hq; exact hq
    · rw [if_neg z, if_neg z1, if_neg z2, if_neg z3, if_neg z4, if_pos z5, if_pos ⟨c, by omega⟩] at hq; exact hq
    · rw [if_neg z, if_neg z1, if_neg z2, if_neg z3, if_pos z4, if_pos ⟨c, by omega⟩] at hq; exact hq
    · rw [if_neg z, if_neg z1, if_neg z2, if_pos z3, if_pos ⟨c, by omega⟩] at hq; exact hq
    · rw [if_neg z, if_neg z1, if_pos z2, if_pos ⟨c, by omega⟩] at hq; exact hq
    · rw [if_neg z, if_pos z1, if_pos ⟨c, by omega⟩] at hq; exact hq
    · rw [if_pos z, if_pos ⟨c, by omega⟩] at hq; exact hq
  · rw [if_neg c] at hp
    subst hp
    rw [if_neg (fun z => c z.1)] at hq
    exact bn_f (by decide) (bn_f (by decide) (bn_f (by decide) (bn_f (by decide) (bn_f (by decide) (bn_f (by decide) hq)))))
theorem u_ho {v : Nat} {p : Int32} {g : Prop} [Decidable g] (hv : v < 256) (hp : p = if g then nI v else -1) (hq : Q (if g ∧ tx_kH v < 6 then nI (tx_kH v) else -9) h) : wp_X6_headOf h p Q := by
  unfold wp_X6_headOf
  by_cases c : g
  · rw [if_pos c] at hp
    subst hp
    unfold tx_kH at hq
    refine pk_ne v 104 (fun z => pk_ne v 119 (fun z1 => pk_ne v 100 (fun z2 => pk_ne v 116 (fun z3 => pk_ne v 98 (fun z4 => pk_ne v 121 (fun z5 => ?_) (fun z5 => ?_) rfl rfl) (fun z4 => ?_) rfl rfl) (fun z3 => ?_) rfl rfl) (fun z2 => ?_) rfl rfl) (fun z1 => ?_) rfl rfl) (fun z => ?_) rfl rfl
    · rw [if_neg z, if_neg z1, if_neg z2, if_neg z3, if_neg z4, if_neg z5, if_neg (by omega)] at hq; exact hq
    · rw [if_neg z, if_neg z1, if_neg z2, if_neg z3, if_neg z4, if_pos z5, if_pos ⟨c, by omega⟩] at hq; exact hq
    · rw [if_neg z, if_neg z1, if_neg z2, if_neg z3, if_pos z4, if_pos ⟨c, by omega⟩] at hq; exact hq
    · rw [if_neg z, if_neg z1, if_neg z2, if_pos z3, if_pos ⟨c, by omega⟩] at hq; exact hq
    · rw [if_neg z, if_neg z1, if_pos z2, if_pos ⟨c, by omega⟩] at hq; exact hq
    · rw [if_neg z, if_pos z1, if_pos ⟨c, by omega⟩] at hq; exact hq
    · rw [if_pos z, if_pos ⟨c, by omega⟩] at hq; exact hq
  · rw [if_neg c] at hp
    subst hp
    rw [if_neg (fun z => c z.1)] at hq
    exact bn_f (by decide) (bn_f (by decide) (bn_f (by decide) (bn_f (by decide) (bn_f (by decide) (bn_f (by decide) hq)))))
/-- A STATEMENT IS READ -/
theorem u_rs (T : ux_T h n w s) (hs : s ≤ n)
    (hq : ∀ h', ux_F h h' → h' 0 14 = nI (tx_b n w s).2 → ((tx_b n w s).1 = true → ∀ k, k < tx_tn w s → h' 12 k = nI (tx_t n w s k)) → Q (if (tx_b n w s).1 then 1 else 0) h') : wp_X6_readsStatement h Q := by
  have h96 := T.1
  have Tp : ux_T (gw_up h 0 14 (nI (s + 1))) n w (s + 1) := T.mv ux_F.pl gw_up_ee
  have Fp : ux_F h (gw_up h 0 14 (nI (s + 1))) := ux_F.pl
  have no : ¬ (s < n ∧ (w s = 100 ∨ w s = 103 ∨ w s = 104 ∨ w s = 111 ∨ w s = 115)) → Q 0 (gw_up (gw_up h 0 14 (nI (s + 1))) 0 14 (nI s)) := by
    intro g
    have e : tx_b n w s = (false, s) := by
      unfold tx_b
      by_cases g0 : s < n
      · rw [if_pos g0, if_neg (by omega), if_neg (by omega), if_neg (by omega), if_neg (by omega), if_neg (by omega)]
      · rw [if_neg g0]
    have := hq _ (Fp.trans (ux_F.pl (x := nI s)))
    rw [e] at this
    exact this gw_up_ee (fun z => absurd z (by simp))
  have em : nI (s + 1) - 1 = nI s := pk_sub (b := 1) (by omega)
  unfold wp_X6_readsStatement
  refine u_sg T (by omega) ?_
  rw [T.2.2.1, nI_1]
  rw [gw_up_ee, em]
  by_cases g : s < n
  · rw [if_pos g]
    have hb := (T.2.2.2 s g).1
    have hv : s + 1 < n → w (s + 1) < 256 := fun y => (T.2.2.2 _ y).1
    unfold tx_b at hq
    rw [if_pos g] at hq
    have d2 : (w s = 100 ∨ w s = 103) → (∀ h', ux_F h h' → h' 0 14 = nI (tx_e n w 2 (s + 1)).2 → ((tx_e n w 2 (s + 1)).1 = true → ∀ k, k < tx_tn w s → h' 12 k = nI (tx_t n w s k)) → Q (if (tx_e n w 2 (s + 1)).1 then 1 else 0) h') → wk_X6_readsStatement_68 Q (gw_up h 0 14 (nI (s + 1))) := by
      intro hw hq'
      unfold wk_X6_readsStatement_68
      refine u_e2 Tp (by omega) (kA := 0) (kB := 1) (by omega) (by omega) (by omega) rfl rfl (fun h' F' s' d' => hq' h' (Fp.trans F') s' (fun z k hk => ?_))
      obtain ⟨q1, q2, -⟩ := d' z
      have tn : tx_tn w s = 2 := by unfold tx_tn; rw [if_neg (by omega), if_neg (by omega), if_neg (by omega)]
      rw [tn] at hk
      have : k = 0 ∨ k = 1 := by omega
      unfold tx_t
      rw [if_neg (by omega), if_neg (by omega), if_neg (by omega)]
      rcases this with rfl | rfl
      · exact q1
      · exact q2
    refine pk_eq (w s) 100 (fun z => ?_) (fun z => ?_) rfl rfl (by omega) (by omega)
    · rw [if_pos z] at hq
      exact d2 (Or.inl z) hq
    · rw [if_neg z] at hq
      refine pk_eq (w s) 103 (fun z => ?_) (fun z => ?_) rfl rfl (by omega) (by omega)
      · rw [if_pos z] at hq
        exact d2 (Or.inr z) hq
      · rw [if_neg z] at hq
        refine pk_eq (w s) 104 (fun z => ?_) (fun z => ?_) rfl rfl (by omega) (by omega)
        · rw [if_pos z] at hq
          refine u_sg Tp (by omega) ?_
          by_cases y : s + 1 < n
          · refine u_ho (v := w (s + 1)) (g := s + 1 < n) (hv y) rfl (u_kd Tp (kd := tx_kH (w (s + 1))) (by omega) rfl (fun h' F' s' d' => hq h' (Fp.trans F') s' (fun q k hk => ?_)))
            obtain ⟨q0, q1, q2⟩ := d' q
            have tn : tx_tn w s = 3 := by unfold tx_tn; rw [if_pos z]
            rw [tn] at hk
            have : k = 0 ∨ k = 1 ∨ k = 2 := by omega
            unfold tx_t
            rw [if_pos z]
            rcases this with rfl | rfl | rfl
            · rw [if_pos rfl]; exact q0
            · rw [if_neg (by omega)]; exact q1
            · rw [if_neg (by omega)]; exact q2
          · refine u_ho (v := 0) (g := s + 1 < n) (by omega) (by rw [if_neg y, if_neg y]) ?_
            rw [if_neg (fun q => y q.1)]
            refine u_kd Tp (kd := tx_kH (w (s + 1))) (by omega) (by rw [if_neg (fun q => y q.1)]) (fun h' F' s' d' => hq h' (Fp.trans F') s' (fun q => ?_))
            rw [if_neg (fun q => y q.1)] at q
            exact absurd q (by simp)
        · rw [if_neg z] at hq
          refine pk_eq (w s) 111 (fun z => ?_) (fun z => ?_) rfl rfl (by omega) (by omega)
          · rw [if_pos z] at hq
            refine u_e1 Tp (by omega) (fun h' F' s' d' => hq h' (Fp.trans F') s' (fun q k hk => ?_))
            have tn : tx_tn w s = 1 := by unfold tx_tn; rw [if_neg (by omega), if_neg (by omega), if_pos z]
            rw [tn] at hk
            have : k = 0 := by omega
            subst this
            unfold tx_t
            rw [if_neg (by omega), if_neg (by omega), if_pos z]
            have := d' q
            unfold tx_v tx_c at this
            rw [if_neg (show ¬ 2 = 1 by omega)] at this
            exact this
          · rw [if_neg z] at hq
            refine pk_eq (w s) 115 (fun z => ?_) (fun z => ?_) rfl rfl (by omega) (by omega)
            · rw [if_pos z] at hq
              refine u_sg Tp (by omega) ?_
              by_cases y : s + 1 < n
              · refine u_so (v := w (s + 1)) (g := s + 1 < n) (hv y) rfl (u_kd Tp (kd := tx_kS (w (s + 1))) (by omega) rfl (fun h' F' s' d' => hq h' (Fp.trans F') s' (fun q k hk => ?_)))
                obtain ⟨q0, q1, q2⟩ := d' q
                have tn : tx_tn w s = 3 := by unfold tx_tn; rw [if_neg (by omega), if_pos z]
                rw [tn] at hk
                have : k = 0 ∨ k = 1 ∨ k = 2 := by omega
                unfold tx_t
                rw [if_neg (by omega), if_pos z]
                rcases this with rfl | rfl | rfl
                · rw [if_pos rfl]; exact q0
                · rw [if_neg (by omega)]; exact q1
                · rw [if_neg (by omega)]; exact q2
              · refine u_so (v := 0) (g := s + 1 < n) (by omega) (by rw [if_neg y, if_neg y]) ?_
                rw [if_neg (fun q => y q.1)]
                refine u_kd Tp (kd := tx_kS (w (s + 1))) (by omega) (by rw [if_neg (fun q => y q.1)]) (fun h' F' s' d' => hq h' (Fp.trans F') s' (fun q => ?_))
                rw [if_neg (fun q => y q.1)] at q
                exact absurd q (by simp)
            · exact no (by omega)
  · rw [if_neg g]
    exact br_f (by decide) (br_f (by decide) (br_f (by decide) (br_f (by decide) (br_f (by decide) (no (fun z => g z.1))))))
end UX
