/-! doors, and who is near -/
section CDOOR
variable {h : gw_H} {Q : Int32 → gw_H → Prop} {b : Nat} {σ : Nat → Int32} {nd ns nh hr : Nat}
theorem c_bor {x : Int32} {r p : Nat} (hr : r < 32) (hp : p < 32) : bt (x ||| (1 <<< (nI r &&& 31))) p = (bt x p || decide (p = r)) := by
  rw [b_or, b_one r hr hp]
theorem c_de {a b : Nat} (ha : a < 2 ^ 31) (hb : b < 2 ^ 31) : decide (nI a = nI b) = decide (a = b) := by
  by_cases h : a = b
  · subst h; simp
  · have : ¬ nI a = nI b := fun e => h ((nI_eq ha hb).mp e)
    simp [h, this]
theorem c_rhl (hW : sp_WF σ nd ns nh hr) (hR : rc_C b h σ nd ns nh) {room : Nat} (hroom : room < 5) (hq : ∀ x, (∀ y, y < 5 → bt x y = (decide (y = room) || sp_dn σ (nI room) (nI y) nd)) → Q x h) :
    ∀ (n d : Nat) (x : Int32), d ≤ nd → nd ≤ d + n → (∀ y, y < 5 → bt x y = (decide (y = room) || sp_dn σ (nI room) (nI y) d)) → wl_X0_roomsHeardIn_6 b (nI room) Q (n + 1) x (nI d) h := by
  obtain ⟨⟨h8, -⟩, ⟨e0, -⟩, -, -, hD, -⟩ := hW
  have r0 := hR.1.1
  rw [e0] at r0
  intro n
  induction n with
  | zero =>
    intro d x hd hn hi
    have : d = nd := by omega
    subst this
    unfold wl_X0_roomsHeardIn_6
    exact br_t (by rw [r0]; exact nI_le (Nat.le_refl _) (by omega)) (hq x hi)
  | succ n ih =>
    intro d x hd hn hi
    unfold wl_X0_roomsHeardIn_6
    refine pk_le nd d (fun g => ?_) (fun g => ?_) r0 rfl (by omega) (by omega)
    · have : d = nd := by omega
      subst this
      exact hq x hi
    · obtain ⟨⟨q0, l0, a0⟩, ⟨q1, l1, a1⟩⟩ := hD d g
      obtain ⟨v2, v3, v4⟩ := hR.2.1 d g
      have nx : ∀ x', (∀ y, y < 5 → bt x' y = (decide (y = room) || sp_dn σ (nI room) (nI y) (d + 1))) → wk_X0_roomsHeardIn_88 b (nI room) (wl_X0_roomsHeardIn_6 b (nI room) Q (n + 1)) Q x' (nI d) h := by
        intro x' h'
        unfold wk_X0_roomsHeardIn_88
        rw [nI_1]
        exact ih (d + 1) x' (by omega) (by omega) h'
      have tail : ∀ x', (∀ y, y < 5 → bt x' y = ((decide (y = room) || sp_dn σ (nI room) (nI y) d) || (sp_op σ d && (decide (q0 = room) && decide (q1 = y))))) → wk_X0_roomsHeardIn_51 b (nI room) (wl_X0_roomsHeardIn_6 b (nI room) Q (n + 1)) Q x' (nI d) h := by
        intro x' h'
        unfold wk_X0_roomsHeardIn_51
        refine c_at d rfl (by omega) (by omega) ?_
        rw [v4]
        have sd : ∀ y, y < 5 → sp_dn σ (nI room) (nI y) (d + 1) = (sp_dn σ (nI room) (nI y) d || (sp_op σ d && ((decide (q0 = room) && decide (q1 = y)) || (decide (q0 = y) && decide (q1 = room))))) := by
          intro y hy
          rw [sp_dn, a0, a1, c_de (by omega) (by omega), c_de (by omega) (by omega), c_de (by omega) (by omega), c_de (by omega) (by omega)]
        cases ho : sp_op σ d with
        | false =>
          refine bn_f (by decide) (nx x' (fun y hy => ?_))
          rw [h' y hy, sd y hy, ho]; simp
        | true =>
          refine bn_t (by decide) (c_at d rfl (by omega) (by omega) ?_)
          rw [v3, a1]
          refine ⟨fun c => nx x' (fun y hy => ?_), fun c => c_at d rfl (by omega) (by omega) ?_⟩
          · have c' : ¬ q1 = room := fun e => c (by rw [e])
            rw [h' y hy, sd y hy, ho]; simp [c', Bool.or_assoc]
          · have c' : q1 = room := (nI_eq (by omega) (by omega)).mp c
            rw [v2, a0]
            refine nx _ (fun y hy => ?_)
            rw [c_bor (by omega) (by omega), h' y hy, sd y hy, ho, c']
            have e : decide (y = q0) = decide (q0 = y) := by simp [eq_comm]
            rw [e]
            simp [Bool.or_assoc]
      refine c_at d rfl (by omega) (by omega) ?_
      rw [v4]
      cases ho : sp_op σ d with
      | false =>
        refine bn_f (by decide) (tail x (fun y hy => ?_))
        rw [hi y hy, ho]; simp
      | true =>
        refine bn_t (by decide) (c_at d rfl (by omega) (by omega) ?_)
        rw [v2, a0]
        refine ⟨fun c => tail x (fun y hy => ?_), fun c => c_at d rfl (by omega) (by omega) ?_⟩
        · have c' : ¬ q0 = room := fun e => c (by rw [e])
          rw [hi y hy, ho]; simp [c']
        · have c' : q0 = room := (nI_eq (by omega) (by omega)).mp c
          rw [v3, a1]
          refine tail _ (fun y hy => ?_)
          rw [c_bor (by omega) (by omega), hi y hy, ho, c']
          have e : decide (y = q1) = decide (q1 = y) := by simp [eq_comm]
          rw [e]; simp
theorem c_rh (hW : sp_WF σ nd ns nh hr) (hR : rc_C b h σ nd ns nh) {room : Nat} {p : Int32} (hp : p = nI room) (hroom : room < 5) (hq : ∀ x, (∀ y, y < 5 → bt x y = (decide (y = room) || sp_dn σ (nI room) (nI y) nd)) → Q x h) : wp_X0_roomsHeardIn h b p Q := by
  subst hp
  unfold wp_X0_roomsHeardIn
  refine ⟨nd + 1, c_rhl hW hR hroom hq nd 0 _ (Nat.zero_le _) (by omega) (fun y hy => ?_)⟩
  rw [b_one room (by omega) (by omega), sp_dn]; simp
theorem c_nbl (hW : sp_WF σ nd ns nh hr) (hR : rc_C b h σ nd ns nh) {a pa : Nat} {x : Int32} (ha : a < nh) (epa : sp_hd σ a 1 = nI pa) (hpa : pa < 5) (hx : ∀ y, y < 5 → bt x y = (decide (y = pa) || sp_dn σ (nI pa) (nI y) nd)) (hq : Q (sp_nb σ nd a nh) h) :
    ∀ (n o : Nat), o ≤ nh → nh ≤ o + n → wl_X2_nearBits_24 b (nI a) Q (n + 1) x (sp_nb σ nd a o) (nI o) h := by
  obtain ⟨⟨-, -, h6, -⟩, ⟨-, -, e3, -⟩, -, -, -, -, hH⟩ := hW
  have r3 := hR.1.2.2.1
  rw [e3] at r3
  intro n
  induction n with
  | zero =>
    intro o ho hn
    have : o = nh := by omega
    subst this
    unfold wl_X2_nearBits_24
    exact br_t (by rw [r3]; exact nI_le (Nat.le_refl _) (by omega)) hq
  | succ n ih =>
    intro o ho hn
    unfold wl_X2_nearBits_24
    refine pk_le nh o (fun g => ?_) (fun g => ?_) r3 rfl (by omega) (by omega)
    · have : o = nh := by omega
      subst this
      exact hq
    · obtain ⟨-, ⟨po, lo, eo⟩, -⟩ := hH o g
      have nx : wk_X2_nearBits_69 b (nI a) (wl_X2_nearBits_24 b (nI a) Q (n + 1)) Q x (sp_nb σ nd a (o + 1)) (nI o) h := by
        unfold wk_X2_nearBits_69
        rw [nI_1]
        exact ih (o + 1) (by omega) (by omega)
      have hne : sp_ne σ nd a o = (decide (a ≠ o) && bt x po) := by
        rw [sp_ne, epa, eo, hx po lo, c_de (by omega) (by omega)]
        have e : decide (po = pa) = decide (pa = po) := by simp [eq_comm]
        rw [e]
      refine pk_eq o a (fun c => ?_) (fun c => ?_) rfl rfl (by omega) (by omega)
      · have e : sp_nb σ nd a (o + 1) = sp_nb σ nd a o := by rw [sp_nb, hne]; simp [c]
        rw [e] at nx; exact nx
      · refine c_at o rfl (by omega) (by omega) ?_
        rw [(hR.2.2.2 o g).2.1, eo]
        have c2 : ¬ a = o := fun e => c e.symm
        refine ⟨fun d => ?_, fun d => ?_⟩
        · have e : sp_nb σ nd a (o + 1) = sp_nb σ nd a o := by
            have : bt x po = false := by
              cases hb : bt x po with
              | false => rfl
              | true => exact absurd ((b_test (by omega)).mpr hb) d
            rw [sp_nb, hne, this]; simp
          rw [e] at nx; exact nx
        · have e : sp_nb σ nd a (o + 1) = sp_nb σ nd a o ||| (1 <<< (nI o &&& 31)) := by
            rw [sp_nb, hne, (b_test (by omega)).mp d]; simp [c2]
          rw [e] at nx; exact nx
theorem c_nb (hW : sp_WF σ nd ns nh hr) (hR : rc_C b h σ nd ns nh) {p : Int32} (a : Nat) (hp : p = nI a) (ha : a < nh) (hq : Q (sp_nb σ nd a nh) h) : wp_X2_nearBits h b p Q := by
  obtain ⟨-, ⟨pa, hpa, epa⟩, -⟩ := hW.2.2.2.2.2.2 a ha
  have h6 : nh ≤ 6 := hW.1.2.2.1
  subst hp
  unfold wp_X2_nearBits
  refine c_at a rfl (by omega) (by omega) ?_
  rw [(hR.2.2.2 a ha).2.1]
  refine c_rh hW hR epa hpa (fun x hx => ⟨nh + 1, ?_⟩)
  exact c_nbl hW hR ha epa hpa hx hq nh 0 (Nat.zero_le _) (by omega)
theorem sp_nbt (σ : Nat → Int32) (nd a : Nat) : ∀ (n o : Nat), n < 32 → o < 32 → bt (sp_nb σ nd a n) o = (decide (o < n) && sp_ne σ nd a o) := by
  intro n
  induction n with
  | zero => intro o _ _; rw [sp_nb, b_0]; simp
  | succ n ih =>
    intro o hn ho
    rw [sp_nb]
    by_cases hc : sp_ne σ nd a n = true
    · rw [if_pos hc, c_bor (by omega) ho, ih o (by omega) ho]
      by_cases e : o = n
      · subst e; simp [hc]
      · have : decide (o < n + 1) = decide (o < n) := by
          by_cases q : o < n
          · simp [q]; omega
          · simp [q]; omega
        rw [this]; simp [e]
    · rw [if_neg hc, ih o (by omega) ho]
      by_cases e : o = n
      · subst e; simp at hc; simp [hc]
      · have : decide (o < n + 1) = decide (o < n) := by
          by_cases q : o < n
          · simp [q]; omega
          · simp [q]; omega
        rw [this]
end CDOOR
