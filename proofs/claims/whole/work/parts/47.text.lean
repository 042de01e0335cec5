/-! ## an office is told -/
def tx_first (n : Nat) (w : Nat → Nat) : Nat → Nat → Nat → Bool × Nat
  | 0, _, c => (true, c)
  | f + 1, s, c => if (tx_b n w s).1 then (if (tx_b n w s).2 < n then tx_first n w f (tx_b n w s).2 (c + 1) else (true, c + 1)) else (false, (tx_b n w s).2)
def tx_sec (n : Nat) (w : Nat → Nat) : Nat → Nat → Nat → tx_O → Int32 × Option tx_O
  | 0, _, c, x => (nI c, some x)
  | f + 1, s, c, x => if n ≤ s then (nI c, some x) else match tx_ob n w s x with
    | none => (-2000 - nI s, none)
    | some y => tx_sec n w f (tx_b n w s).2 (c + 1) y
/-- from here on all are statements, C in all -/
def tx_G (n : Nat) (w : Nat → Nat) (s c C : Nat) : Prop := (n ≤ s ∧ C = c) ∨ (s < n ∧ ∃ f, n ≤ s + f ∧ tx_first n w f s c = (true, C))
theorem tx_first_s {n : Nat} {w : Nat → Nat} {f s c : Nat} : tx_first n w (f + 1) s c = if (tx_b n w s).1 then (if (tx_b n w s).2 < n then tx_first n w f (tx_b n w s).2 (c + 1) else (true, c + 1)) else (false, (tx_b n w s).2) := rfl
section TX6
variable {n : Nat} {w : Nat → Nat} {s : Nat} {σ : Nat → Int32} {nd ns nh hr : Nat}
theorem tx_G.st {c C : Nat} (g : tx_G n w s c C) (hs : s < n) : (tx_b n w s).1 = true ∧ tx_G n w (tx_b n w s).2 (c + 1) C := by
  rcases g with ⟨a, -⟩ | ⟨-, f, hf, e⟩
  · omega
  · cases f with
    | zero => omega
    | succ f =>
      rw [tx_first] at e
      by_cases o : (tx_b n w s).1 = true
      · rw [if_pos o] at e
        obtain ⟨-, q1, -, -⟩ := tx_ok o
        refine ⟨o, ?_⟩
        by_cases l : (tx_b n w s).2 < n
        · rw [if_pos l] at e
          exact Or.inr ⟨l, f, by omega, e⟩
        · rw [if_neg l] at e
          exact Or.inl ⟨by omega, (Prod.mk.inj e).2.symm⟩
      · rw [if_neg o] at e
        exact absurd (Prod.mk.inj e).1 (by simp)
theorem tx_n_le (p : Nat) : tx_n n w p ≤ 2 := by
  unfold tx_n
  split
  · split <;> omega
  · omega
theorem tx_b_le (s : Nat) : (tx_b n w s).2 ≤ s + 5 := by
  have e : ∀ l p, (tx_e n w l p).2 ≤ p + 3 := fun l p => by
    have := tx_n_le (n := n) (w := w) p
    unfold tx_e
    split
    · show p + tx_n n w p ≤ p + 3; omega
    · split
      · show p + tx_n n w p + 1 ≤ p + 3; omega
      · show p + tx_n n w p ≤ p + 3; omega
  have e1 := e 2 (s + 1)
  have e2 := e 2 (s + 2)
  have e3 := e 1 (s + 1)
  have z0 : (false, s).2 ≤ s + 5 := by show s ≤ s + 5; omega
  have z1 : (false, s + 1).2 ≤ s + 5 := by show s + 1 ≤ s + 5; omega
  unfold tx_b
  split
  · split
    · omega
    · split
      · omega
      · split
        · split
          · omega
          · exact z1
        · split
          · omega
          · split
            · split
              · omega
              · exact z1
            · exact z0
  · exact z0
theorem tx_ng : ∀ p, p < 300 → ¬ (0 : Int32) ≤ -1 - nI p ∧ (-1 : Int32) - (-1 - nI p) = nI p := by decide +kernel
theorem t_fpl {h : gw_H} (T : tx_T h n w) {Q : Int32 → gw_H → Prop} (hq : Q (if (tx_first n w 97 0 0).1 then -9 else nI (tx_first n w 97 0 0).2) h) :
    ∀ (f s i c : Nat), i + f = 97 → s ≤ 96 → tx_first n w 97 0 0 = tx_first n w f s c → wl_X4_faultPlace_4 Q (f + 1) (nI s) (nI i) h := by
  have h96 := T.1
  intro f
  induction f with
  | zero =>
    intro s i c hi hs hE
    have : i = 97 := by omega
    subst this
    unfold wl_X4_faultPlace_4
    rw [hE, tx_first] at hq
    exact br_t (by decide) hq
  | succ f ih =>
    intro s i c hi hs hE
    unfold wl_X4_faultPlace_4
    refine pk_lt 96 i (fun g => by omega) (fun g => t_bs T s rfl (by omega) ?_) rfl rfl (by omega) (by omega)
    have hb := tx_b_le (n := n) (w := w) s
    replace hE := hE.trans tx_first_s
    unfold tx_bv
    by_cases o : (tx_b n w s).1 = true
    · rw [if_pos o] at hE ⊢
      obtain ⟨-, -, q2, -⟩ := tx_ok o
      refine br_t (nI_pos' (by omega)) (pk_lt (tx_b n w s).2 n (fun l => ?_) (fun l => ?_) rfl T.2.1 (by omega) (by omega))
      · rw [if_pos l] at hE
        rw [nI_1]
        exact ih _ (i + 1) (c + 1) (by omega) (by omega) hE
      · rw [if_neg (by omega)] at hE
        rw [hE] at hq
        exact hq
    · rw [if_neg o] at hE ⊢
      rw [hE, if_neg (by simp)] at hq
      obtain ⟨a, b⟩ := tx_ng _ (show (tx_b n w s).2 < 300 by omega)
      refine br_f a ?_
      rw [b]; exact hq
theorem t_fp {h : gw_H} (T : tx_T h n w) {Q : Int32 → gw_H → Prop} (hq : Q (if (tx_first n w 97 0 0).1 then -9 else nI (tx_first n w 97 0 0).2) h) : wp_X4_faultPlace h Q := by
  unfold wp_X4_faultPlace
  exact ⟨98, t_fpl T hq 97 0 0 0 (by omega) (by omega) rfl⟩
theorem tx_T.F {h h' : gw_H} (T : tx_T h n w) (F : rc_F 24 h h') : tx_T h' n w :=
  ⟨T.1, by rw [rf24 F 70 (by omega)]; exact T.2.1, fun k hk => by rw [rf24 F 71 (by omega)]; exact T.2.2 k hk⟩
theorem c_oal {Q : Int32 → gw_H → Prop} {h0 : gw_H} {C : Nat} {r : Int32 × Option tx_O} (hn : r.2 = none → ∀ h', rc_F 24 h0 h' → Q r.1 h')
    (hs : ∀ y, r.2 = some y → tx_W y hr → ∀ h', rc_C 24 h' y.1 y.2.1 y.2.2.1 y.2.2.2 → rc_F 24 h0 h' → wk_X5_obeyAll_61 Q r.1 h') :
    ∀ (f s c : Nat) (x : tx_O) (h : gw_H), n ≤ s + f → c ≤ s → s ≤ n → tx_G n w s c C → tx_T h n w → tx_W x hr → rc_C 24 h x.1 x.2.1 x.2.2.1 x.2.2.2 → rc_F 24 h0 h → r = tx_sec n w f s c x → wl_X5_obeyAll_15 Q (f + 1) (nI s) (nI c) h := by
  intro f
  induction f with
  | zero =>
    intro s c x h hf hc hsn hG T hW hR hF hr'
    have h96 := T.1
    unfold wl_X5_obeyAll_15
    subst hr'
    exact br_t (by rw [T.2.1]; exact nI_le (by omega) (by omega)) (hs x rfl hW h hR hF)
  | succ f ih =>
    intro s c x h hf hc hsn hG T hW hR hF hr'
    have h96 := T.1
    unfold wl_X5_obeyAll_15
    rw [tx_sec] at hr'
    refine pk_le n s (fun g => ?_) (fun g => pk_le 96 c (fun g2 => by omega) (fun g2 => ?_) rfl rfl (by omega) (by omega)) T.2.1 rfl (by omega) (by omega)
    · rw [if_pos g] at hr'
      subst hr'
      exact hs x rfl hW h hR hF
    · rw [if_neg (by omega)] at hr'
      obtain ⟨o, hG'⟩ := hG.st g
      obtain ⟨-, q1, q2, q3⟩ := tx_ok o
      refine c_ob T hW hR g q3 rfl (fun e => ?_) (fun y e h' a1 a2 => ?_)
      · have e' : tx_ob n w s x = none := e
        rw [e'] at hr'
        subst hr'
        exact bn_t rfl (hn rfl h hF)
      · have e' : tx_ob n w s x = some y := e
        rw [e'] at hr'
        refine bn_f rr_dec1 (t_bs (T.F a2) s rfl (by omega) ?_)
        unfold tx_bv
        rw [if_pos o, nI_1]
        exact ih _ (c + 1) y h' (by omega) (by omega) q2 hG' (T.F a2) (tx_W.ob hW q3 e') a1 (hF.trans a2) hr'
/-- what the second reading leaves -/
def uy_F (h h' : gw_H) : Prop := (∀ c, c ≠ 0 → c ≠ 2 → c ≠ 12 → h' c = h c) ∧ ∀ j, j ≠ 14 → h' 0 j = h 0 j
theorem uy_F.refl {h : gw_H} : uy_F h h := ⟨fun _ _ _ _ => rfl, fun _ _ => rfl⟩
theorem uy_F.trans {h h1 h2 : gw_H} (a : uy_F h h1) (b : uy_F h1 h2) : uy_F h h2 := ⟨fun c x y z => (b.1 c x y z).trans (a.1 c x y z), fun j x => (b.2 j x).trans (a.2 j x)⟩
theorem ux_F.y {h h1 : gw_H} (a : ux_F h h1) : uy_F h h1 := ⟨fun c x _ z => a.1 c x z, a.2⟩
theorem uy_2 {h h1 : gw_H} (a : ∀ c, c ≠ 2 → h1 c = h c) : uy_F h h1 := ⟨fun c _ y _ => a c y, fun j _ => by rw [a 0 (by omega)]⟩
theorem m_r2 {Q : Int32 → gw_H → Prop} {h0 : gw_H} {C : Nat} {r : Int32 × Option tx_O} {σ0 : Nat → Int32} (hn : r.2 = none → ∀ h', rm_M h' σ0 → uy_F h0 h' → Q r.1 h')
    (hs : ∀ y, r.2 = some y → ∀ h', rm_M h' y.1 → uy_F h0 h' → Q r.1 h') :
    ∀ (f s c : Nat) (x : tx_O) (h : gw_H), n ≤ s + f → c ≤ s → s ≤ n → tx_G n w s c C → ux_T h n w s → tx_W x hr → rm_M h x.1 → (∀ i, i < 73 → h 4 i = σ0 i) → uy_F h0 h → r = tx_sec n w f s c x → wl_X6_reads_53 Q (f + 1) (nI C) h := by
  intro f
  induction f with
  | zero =>
    intro s c x h hf hc hsn hG T hW hM1 h4 hF hr'
    have h96 := T.1
    unfold wl_X6_reads_53
    subst hr'
    refine br_t (by rw [T.2.1, T.2.2.1]; exact nI_le (by omega) (by omega)) ?_
    have := hs x rfl h hM1 hF
    rcases hG with ⟨-, e⟩ | ⟨a, -⟩
    · rw [e]; exact this
    · omega
  | succ f ih =>
    intro s c x h hf hc hsn hG T hW hM1 h4 hF hr'
    have h96 := T.1
    unfold wl_X6_reads_53
    rw [tx_sec] at hr'
    refine pk_le n s (fun g => ?_) (fun g => ?_) T.2.1 T.2.2.1 (by omega) (by omega)
    · rw [if_pos g] at hr'
      subst hr'
      have := hs x rfl h hM1 hF
      rcases hG with ⟨-, e⟩ | ⟨a, -⟩
      · rw [e]; exact this
      · omega
    · rw [if_neg (by omega)] at hr'
      obtain ⟨o, hG'⟩ := hG.st g
      obtain ⟨-, q1, q2, q3⟩ := tx_ok o
      have hb := (T.2.2.2 s g).1
      refine u_sg T (by omega) ?_
      rw [if_pos g]
      refine u_rs T (by omega) (fun h1 F1 s1 t1 => ?_)
      have F1y := F1.y
      have M1 : rm_M h1 x.1 := hM1.congr (F1.1 2 (by omega) (by omega))
      have T1 := T.mv F1 s1
      refine m_co hW M1 q3 hb (t1 o) rfl (fun e => ?_) (fun y e h' a1 a2 => ?_)
      · have e' : tx_ob n w s x = none := e
        rw [e'] at hr'
        subst hr'
        refine bn_t rfl (m_lay (by omega) (fun h2 b1 b2 => ?_))
        rw [T.2.2.1]
        refine hn rfl h2 (fun i hi => (b1 i hi).trans ?_) (hF.trans (F1y.trans (uy_2 b2)))
        rw [F1.1 4 (by omega) (by omega)]; exact h4 i hi
      · have e' : tx_ob n w s x = some y := e
        rw [e'] at hr'
        have T2 : ux_T h' n w (tx_b n w s).2 := ⟨T1.1, by rw [a2 0 (by omega)]; exact T1.2.1, by rw [a2 0 (by omega)]; exact T1.2.2.1, by rw [a2 11 (by omega)]; exact T1.2.2.2⟩
        refine bn_f rr_dec1 (ih _ (c + 1) y h' (by omega) (by omega) q2 hG' T2 (tx_W.ob hW q3 e') a1 (fun i hi => ?_) (hF.trans (F1y.trans (uy_2 a2))) hr')
        rw [a2 4 (by omega), F1.1 4 (by omega) (by omega)]; exact h4 i hi
theorem m_r1 {Q : Int32 → gw_H → Prop} {h0 : gw_H} (hn : (tx_first n w 97 0 0).1 = false → ∀ h', ux_F h0 h' → Q (-1000 - nI (tx_first n w 97 0 0).2) h')
    (hs : (tx_first n w 97 0 0).1 = true → ∀ h', ux_F h0 h' → wp_X6_lays h' 2 73 4 73 (fun _ h_5 => (∃ n_15 : Nat, wl_X6_reads_53 Q n_15 (nI (tx_first n w 97 0 0).2) (gw_up h_5 0 14 0)))) :
    ∀ (f s c : Nat) (h : gw_H), 97 ≤ s + f → s ≤ n → ux_T h n w s → ux_F h0 h → tx_first n w 97 0 0 = tx_first n w f s c → wl_X6_reads_7 Q (f + 1) (nI c) h := by
  intro f
  induction f with
  | zero =>
    intro s c h hf hsn T hF hE
    have h96 := T.1
    omega
  | succ f ih =>
    intro s c h hf hsn T hF hE
    have h96 := T.1
    unfold wl_X6_reads_7
    replace hE := hE.trans tx_first_s
    refine u_rs T hsn (fun h1 F1 s1 t1 => ?_)
    have T1 := T.mv F1 s1
    have hb := tx_b_le (n := n) (w := w) s
    by_cases o : (tx_b n w s).1 = true
    · rw [if_pos o] at hE ⊢
      obtain ⟨-, q1, q2, q3⟩ := tx_ok o
      refine bn_f rr_dec1 (pk_lt (tx_b n w s).2 n (fun l => ?_) (fun l => ?_) s1 T1.2.1 (by omega) (by omega))
      · rw [if_pos l] at hE
        rw [nI_1]
        exact ih _ (c + 1) h1 (by omega) q2 T1 (hF.trans F1) hE
      · rw [if_neg (by omega)] at hE
        rw [nI_1]
        have := hs (by rw [hE]) h1 (hF.trans F1)
        rw [hE] at this
        exact this
    · rw [if_neg o] at hE ⊢
      refine bn_t rfl ?_
      rw [s1]
      have := hn (by rw [hE]) h1 (hF.trans F1)
      rw [hE] at this
      exact this
end TX6
section TX7
variable {hC hM : gw_H}
theorem RR.of {hC' hM' : gw_H} {τ : Nat → Int32} {nd ns nh hr : Nat} (hX : rr_X hC hM) (hW : sp_WF τ nd ns nh hr) (hh : hr ≤ 999) (hR : rc_C 1 hC' τ nd ns nh) (hM1 : rm_M hM' τ) (a : ∀ c, c = 0 ∨ 47 ≤ c → hC' c = hC c)
    (b : ∀ c, c = 1 ∨ c = 3 ∨ c = 11 ∨ c = 13 → hM' c = hM c) (b0 : ∀ j, j ≠ 14 → hM' 0 j = hM 0 j) : RR (gw_up hC' 70 1 0) (gw_up hM' 0 13 0) := by
  obtain ⟨⟨k1, k2⟩, ⟨n, r1, r2, r3, r4⟩, ⟨m, l1, l2, l3, l4⟩, f⟩ := hX
  have a0 := a 0 (Or.inl rfl)
  refine ⟨τ, nd, ns, nh, hr, hW, hh, hR.irr (fun m hm => by omega), hM1.congr (gw_up_ne (by omega)), ⟨?_, ?_⟩, ⟨n, r1, ?_, ?_, ?_⟩, ⟨0, by omega, gw_up_ee, gw_up_ee, fun i hi => by omega⟩, ?_⟩
  · rw [gw_up_ne (by omega), gw_up_en (by omega), a0, b0 5 (by omega)]; exact k1
  · rw [gw_up_ne (by omega), a0]
    refine k2.imp id (fun k => ⟨k.1, ?_⟩)
    obtain ⟨-, σ, nd, ns, nh, hr, q1, q2, q3, q4⟩ := k
    refine ⟨σ, nd, ns, nh, hr, q1, q2, (q3.congr (fun k hk => a _ (by omega))).irr (fun m hm => by omega), ?_⟩
    rw [gw_up_ne (by omega), b 3 (by omega)]; exact q4
  · rw [gw_up_ne (by omega), a0]; exact r2
  · rw [gw_up_en (by omega), b0 16 (by omega)]; exact r3
  · rw [gw_up_ne (by omega), gw_up_ne (by omega), a 72 (by omega), b 13 (by omega)]; exact r4
  · unfold rr_F; rw [gw_up_ne (by omega), gw_up_ne (by omega), a 73 (by omega), b 1 (by omega)]; exact f
theorem tx_lw (hX : rr_X hC hM) : ∃ n w, tx_T hC n w ∧ ux_T (gw_up hM 0 14 0) n w 0 := by
  obtain ⟨-, -, ⟨n, l1, l2, l3, l4⟩, -⟩ := hX
  refine ⟨n, fun k => if hk : k < n then (l4 k hk).choose else 0, ⟨l1, l2, fun k hk => ?_⟩, ⟨l1, ?_, gw_up_ee, fun k hk => ?_⟩⟩
  · dsimp only
    rw [dif_pos hk]
    exact ⟨(l4 k hk).choose_spec.1, (l4 k hk).choose_spec.2.1⟩
  · rw [gw_up_en (by omega)]; exact l3
  · dsimp only
    rw [dif_pos hk, gw_up_ne (by omega)]
    exact ⟨(l4 k hk).choose_spec.1, (l4 k hk).choose_spec.2.2⟩
theorem o_office (R : RR hC hM) : wp_X5_office hC (fun r hC' => wp_X6_office hM (rr_A r hC')) := by
  obtain ⟨σ, nd, ns, nh, hr, S⟩ := R
  have S : RS hC hM σ nd ns nh hr := S
  obtain ⟨hW, hh, hR, hM1, hX⟩ := id S
  obtain ⟨n, w, T, U⟩ := tx_lw hX
  have h96 := T.1
  have U0 : ux_F hM (gw_up hM 0 14 0) := ux_F.pl
  have M0 : rm_M (gw_up hM 0 14 0) σ := hM1.congr (gw_up_ne (by omega))
  unfold wp_X5_office
  refine t_fp T ?_
  have hb : (tx_first n w 97 0 0).2 < 300 ∨ (tx_first n w 97 0 0).1 = true := by
    have : ∀ f s c, s ≤ 96 → (tx_first n w f s c).2 < 300 ∨ (tx_first n w f s c).1 = true := by
      intro f
      induction f with
      | zero => exact fun s c _ => Or.inr rfl
      | succ f ih =>
        intro s c hs
        rw [tx_first]
        have := tx_b_le (n := n) (w := w) s
        by_cases o : (tx_b n w s).1 = true
        · rw [if_pos o]
          obtain ⟨-, -, q2, -⟩ := tx_ok o
          by_cases l : (tx_b n w s).2 < n
          · rw [if_pos l]; exact ih _ _ (by omega)
          · rw [if_neg l]; exact Or.inr rfl
        · rw [if_neg o]; exact Or.inl (by show (tx_b n w s).2 < 300; omega)
    exact this 97 0 0 (by omega)
  by_cases g : (tx_first n w 97 0 0).1 = true
  · rw [if_pos g]
    refine bn_t rfl ?_
    have hG : tx_G n w 0 0 (tx_first n w 97 0 0).2 := by
      by_cases z : n = 0
      · exfalso
        subst z
        rw [tx_first] at g
        have : tx_b 0 w 0 = (false, 0) := by unfold tx_b; rw [if_neg (by omega)]
        rw [this] at g
        exact absurd g (by simp)
      · exact Or.inr ⟨by omega, 97, by omega, by rw [← g]⟩
    have W0 : tx_W (σ, nd, ns, nh) hr := hW
    have mod : ∀ {A : Int32 → gw_H → Prop}, ((tx_sec n w n 0 0 (σ, nd, ns, nh)).2 = none → ∀ h', rm_M h' σ → (∀ c, c = 1 ∨ c = 3 ∨ c = 11 ∨ c = 13 → h' c = hM c) → (∀ j, j ≠ 14 → h' 0 j = hM 0 j) → A (tx_sec n w n 0 0 (σ, nd, ns, nh)).1 (gw_up h' 0 13 0)) →
        (∀ y, (tx_sec n w n 0 0 (σ, nd, ns, nh)).2 = some y → ∀ h', rm_M h' y.1 → (∀ c, c = 1 ∨ c = 3 ∨ c = 11 ∨ c = 13 → h' c = hM c) → (∀ j, j ≠ 14 → h' 0 j = hM 0 j) → A (tx_sec n w n 0 0 (σ, nd, ns, nh)).1 (gw_up h' 0 13 0)) → wp_X6_office hM A := by
      intro A q1 q2
      unfold wp_X6_office wp_X6_reads
      refine ⟨98, m_r1 (h0 := gw_up hM 0 14 0) (fun z => by rw [g] at z; exact absurd z (by simp)) (fun _ h1 F1 => m_lay (by omega) (fun h2 b1 b2 => ?_)) 97 0 0 _ (by omega) (by omega) U ux_F.refl rfl⟩
      have c2 : ∀ c, c ≠ 4 → gw_up h2 0 14 0 c = gw_up h1 0 14 0 c := fun c hc => by
        by_cases z : c = 0
        · subst z; funext j; rw [gw_up_r, gw_up_r, b2 0 (by omega)]
        · rw [gw_up_ne z, gw_up_ne z]; exact b2 c hc
      have T2 : ux_T (gw_up h2 0 14 0) n w 0 := ⟨h96, by rw [gw_up_en (by omega), b2 0 (by omega), F1.2 13 (by omega)]; exact U.2.1, gw_up_ee, by rw [gw_up_ne (by omega), b2 11 (by omega), F1.1 11 (by omega) (by omega)]; exact U.2.2.2⟩
      have hM2 : rm_M (gw_up h2 0 14 0) σ := by
        refine M0.congr ?_
        rw [gw_up_ne (by omega), b2 2 (by omega), F1.1 2 (by omega) (by omega)]
      have h42 : ∀ i, i < 73 → gw_up h2 0 14 0 4 i = σ i := fun i hi => by
        rw [gw_up_ne (by omega), b1 i hi, F1.1 2 (by omega) (by omega)]; exact M0 i hi
      have fr : ∀ h', uy_F (gw_up h2 0 14 0) h' → (∀ c, c = 1 ∨ c = 3 ∨ c = 11 ∨ c = 13 → h' c = hM c) ∧ (∀ j, j ≠ 14 → h' 0 j = hM 0 j) := fun h' F => by
        refine ⟨fun c hc => ?_, fun j hj => ?_⟩
        · rw [F.1 c (by omega) (by omega) (by omega), gw_up_ne (by omega), b2 c (by omega), F1.1 c (by omega) (by omega), gw_up_ne (by omega)]
        · rw [F.2 j hj, gw_up_en hj, b2 0 (by omega), F1.2 j hj, gw_up_en hj]
      exact ⟨n + 1, m_r2 (h0 := gw_up h2 0 14 0) (r := tx_sec n w n 0 0 (σ, nd, ns, nh)) (fun z h' a1 a2 => q1 z h' a1 (fr h' a2).1 (fr h' a2).2) (fun y z h' a1 a2 => q2 y z h' a1 (fr h' a2).1 (fr h' a2).2) n 0 0 (σ, nd, ns, nh) _ (by omega) (by omega) (by omega) hG T2 W0 hM2 h42 uy_F.refl rfl⟩
    unfold wp_X5_obeyAll
    refine c_ta hW hR (by omega) (fun h1 a1 a2 a3 a4 => ⟨n + 1, c_oal (h0 := h1) (hr := hr) (r := tx_sec n w n 0 0 (σ, nd, ns, nh)) (fun z h' b1 => ?_) (fun y z Wy h' b1 b2 => ?_) n 0 0 (σ, nd, ns, nh) h1 (by omega) (by omega) (by omega) hG (T.F a4) W0 a1 rc_F.refl rfl⟩)
    · unfold wk_X5_office_26
      have F := a4.trans b1
      exact mod (fun _ h2 d1 d2 d3 => ⟨rfl, RR.of hX hW hh (rc_1_24 hR F) d1 (rf24 F) d2 d3⟩) (fun y z' => by rw [z] at z'; exact absurd z' (by simp))
    · unfold wk_X5_obeyAll_61
      refine c_ta Wy b1 (by omega) (fun h2 c1 c2 c3 c4 => ?_)
      unfold wk_X5_office_26
      refine mod (fun z' => by rw [z] at z'; exact absurd z' (by simp)) (fun y' z' h3 d1 d2 d3 => ⟨rfl, ?_⟩)
      rw [z] at z'
      cases z'
      exact RR.of hX Wy hh c1 d1 (fun c hc => (rf1 c4 c hc).trans (rf24 (a4.trans b2) c hc)) d2 d3
  · rw [if_neg g]
    have hb' : (tx_first n w 97 0 0).2 < 300 := hb.elim id (fun z => absurd z g)
    refine bn_f (n9_ne (by omega)) ?_
    unfold wk_X5_office_26 wp_X6_office wp_X6_reads
    refine ⟨98, m_r1 (h0 := gw_up hM 0 14 0) (fun _ h' F => ⟨rfl, ?_⟩) (fun z => absurd z g) 97 0 0 _ (by omega) (by omega) U ux_F.refl rfl⟩
    refine RR.of hX hW hh hR (M0.congr (F.1 2 (by omega) (by omega))) (fun _ _ => rfl) (fun c hc => ?_) (fun j hj => ?_)
    · rw [F.1 c (by omega) (by omega), gw_up_ne (by omega)]
    · rw [F.2 j hj, gw_up_en hj]
end TX7
