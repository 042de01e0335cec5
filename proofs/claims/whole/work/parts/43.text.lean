/-! ## letters -/
def tx_d (n : Nat) (w : Nat → Nat) (k : Nat) : Bool := decide (k < n) && (decide (48 ≤ w k) && decide (w k ≤ 57))
def tx_n (n : Nat) (w : Nat → Nat) (p : Nat) : Nat := if tx_d n w p then (if tx_d n w (p + 1) then 2 else 1) else 0
def tx_e (n : Nat) (w : Nat → Nat) (least p : Nat) : Bool × Nat :=
  if tx_n n w p < least then (false, p + tx_n n w p) else if p + tx_n n w p < n ∧ w (p + tx_n n w p) = 59 then (true, p + tx_n n w p + 1) else (false, p + tx_n n w p)
def tx_kS (v : Nat) : Nat := if v = 115 then 0 else if v = 108 then 1 else if v = 113 then 2 else if v = 99 then 3 else if v = 106 then 4 else if v = 104 then 5 else 6
def tx_kH (v : Nat) : Nat := if v = 104 then 0 else if v = 119 then 1 else if v = 100 then 2 else if v = 116 then 3 else if v = 98 then 4 else if v = 121 then 5 else 6
def tx_b (n : Nat) (w : Nat → Nat) (s : Nat) : Bool × Nat :=
  if s < n then (if w s = 100 then tx_e n w 2 (s + 1) else if w s = 103 then tx_e n w 2 (s + 1) else if w s = 104 then (if s + 1 < n ∧ tx_kH (w (s + 1)) < 6 then tx_e n w 2 (s + 2) else (false, s + 1)) else if w s = 111 then tx_e n w 1 (s + 1) else if w s = 115 then (if s + 1 < n ∧ tx_kS (w (s + 1)) < 6 then tx_e n w 2 (s + 2) else (false, s + 1)) else (false, s)) else (false, s)
def tx_T (h : gw_H) (n : Nat) (w : Nat → Nat) : Prop := n ≤ 96 ∧ h 70 1 = nI n ∧ ∀ k, k < n → w k < 256 ∧ h 71 k = nI (w k)
section TX2
variable {h : gw_H} {Q : Int32 → gw_H → Prop} {n : Nat} {w : Nat → Nat}
theorem t_sg (T : tx_T h n w) {p : Int32} (k : Nat) (e : p = nI k) (hk : k < 1000) (hq : Q (if k < n then nI (w k) else -1) h) : wp_X4_sign h p Q := by
  obtain ⟨t1, t2, t3⟩ := T
  subst e
  unfold wp_X4_sign
  refine br_f (nI_pos (by omega)) (pk_le n k (fun g => ?_) (fun g => c_at k rfl (by omega) (by omega) ?_) t2 rfl (by omega) (by omega))
  · rw [if_neg (by omega)] at hq; exact hq
  · rw [if_pos g] at hq; rw [(t3 k g).2]; exact hq
theorem t_dg (T : tx_T h n w) {p : Int32} (k : Nat) (e : p = nI k) (hk : k < 1000) (hq : Q (if tx_d n w k then nI (w k - 48) else -9) h) : wp_X4_digit h p Q := by
  unfold wp_X4_digit
  refine t_sg T k e hk ?_
  unfold tx_d at hq
  by_cases g : k < n
  · rw [if_pos g]
    rw [decide_eq_true g, Bool.true_and] at hq
    have hb := (T.2.2 k g).1
    refine pk_lt (w k) 48 (fun a => ?_) (fun a => pk_lt 57 (w k) (fun b => ?_) (fun b => ?_) rfl rfl (by omega) (by omega)) rfl rfl (by omega) (by omega)
    · rw [decide_eq_false (by omega)] at hq; exact hq
    · rw [decide_eq_false (p := w k ≤ 57) (by omega), Bool.and_false] at hq; exact hq
    · rw [decide_eq_true (by omega), decide_eq_true (by omega)] at hq
      rw [show (48 : Int32) = nI 48 from rfl, pk_sub (by omega)]; exact hq
  · rw [if_neg g]
    rw [decide_eq_false g] at hq
    exact br_t (by decide) hq
theorem t_id (T : tx_T h n w) {p : Int32} (k : Nat) (e : p = nI k) (hk : k < 1000) (hq : Q (if tx_d n w k then 1 else 0) h) : wp_X4_isDigit h p Q := by
  unfold wp_X4_isDigit
  refine t_dg T k e hk ?_
  by_cases g : tx_d n w k = true
  · rw [if_pos g] at hq ⊢
    refine br_f (n9_ne ?_) hq
    unfold tx_d at g
    simp only [Bool.and_eq_true, decide_eq_true_eq] at g
    omega
  · rw [if_neg g] at hq ⊢
    exact br_t rfl hq
/-! which kind a letter tells -/
theorem io_st {i m k : Nat} {p2 p3 x4 : Int32} (h6 : gw_len2.getD i 0 = 6) (hk : k < 6) (f : ¬ (gw_byt2.getD i []).getD k 0 = x4 → wl_J1_indexOfChar_4cfef_7 i p2 p3 (nI 6) Q m x4 (nI (k + 1)) h) (g : (gw_byt2.getD i []).getD k 0 = x4 → Q (nI k) h) : wl_J1_indexOfChar_4cfef_7 i p2 p3 (nI 6) Q (m + 1) x4 (nI k) h := by
  unfold wl_J1_indexOfChar_4cfef_7
  refine br_f (nI_ge hk (by omega)) ⟨by rw [h6]; exact vp_in_nI hk (by omega), ?_⟩
  rw [nI_clamp (by omega), nI_1]
  exact ⟨f, g⟩
theorem io_fin {i m : Nat} {p2 p3 x4 : Int32} (g : Q (-1) h) : wl_J1_indexOfChar_4cfef_7 i p2 p3 (nI 6) Q (m + 1) x4 (nI 6) h := by
  unfold wl_J1_indexOfChar_4cfef_7
  exact br_t (by decide) g
theorem io_pre {i v : Nat} (h6 : gw_len2.getD i 0 = 6) (hv : v < 256) {p : Int32} (hp : p = nI v) (hq : wl_J1_indexOfChar_4cfef_7 i (nI v) 0 (nI 6) Q 7 ((nI v).toInt8.toInt32) (nI 0) h) : wp_J0_indexOf_0f7a4 h i p Q := by
  subst hp
  unfold wp_J0_indexOf_0f7a4 wp_J0_indexOf_7cf53 wp_J0_isLatin1_aae02
  refine br_f rr_dec1 (bn_t rfl (br_f rr_dec1 ?_))
  unfold wp_J0_length_8abf5 wp_J0_coder_7d493
  refine br_f rr_dec1 ?_
  rw [h6]
  unfold wp_J1_indexOf_4cfef wp_J1_canEncode_9a6ad
  refine br_f (nI_pos (by omega)) (br_f (nI_nlt (a := 255) (by omega) (by omega)) (bn_f rr_dec1 ?_))
  rw [h6]
  have e0 : (if (0 : Int32) < 0 then (0 : Int32) else 0) = 0 := by decide
  have e6 : (if Int32.ofNat 6 < Int32.ofNat 6 >>> ((0 : Int32) &&& 31) then Int32.ofNat 6 else Int32.ofNat 6 >>> ((0 : Int32) &&& 31)) = nI 6 := by decide
  rw [e0, e6]
  refine br_t (by decide) ?_
  unfold wp_J1_indexOfChar_4cfef
  exact ⟨7, hq⟩
theorem io_b : ∀ v, v < 256 → ∀ c, c < 128 → ((Int32.ofNat c = (nI v).toInt8.toInt32) ↔ v = c) := by decide +kernel
theorem io_S {v : Nat} (hv : v < 256) {p : Int32} (hp : p = nI v) (hq : Q (if tx_kS v < 6 then nI (tx_kS v) else -1) h) : wp_J0_indexOf_0f7a4 h 0 p Q := by
  refine io_pre rfl hv hp ?_
  unfold tx_kS at hq
  refine io_st rfl (by omega) (fun a0 => ?_) (fun a => ?_)
  · have b0 : ¬ v = 115 := fun z => a0 ((io_b v hv 115 (by omega)).mpr z)
    rw [if_neg b0] at hq
    refine io_st rfl (by omega) (fun a0 => ?_) (fun a => ?_)
    · have b0 : ¬ v = 108 := fun z => a0 ((io_b v hv 108 (by omega)).mpr z)
      rw [if_neg b0] at hq
      refine io_st rfl (by omega) (fun a0 => ?_) (fun a => ?_)
      · have b0 : ¬ v = 113 := fun z => a0 ((io_b v hv 113 (by omega)).mpr z)
        rw [if_neg b0] at hq
        refine io_st rfl (by omega) (fun a0 => ?_) (fun a => ?_)
        · have b0 : ¬ v = 99 := fun z => a0 ((io_b v hv 99 (by omega)).mpr z)
          rw [if_neg b0] at hq
          refine io_st rfl (by omega) (fun a0 => ?_) (fun a => ?_)
          · have b0 : ¬ v = 106 := fun z => a0 ((io_b v hv 106 (by omega)).mpr z)
            rw [if_neg b0] at hq
            refine io_st rfl (by omega) (fun a0 => ?_) (fun a => ?_)
            · have b0 : ¬ v = 104 := fun z => a0 ((io_b v hv 104 (by omega)).mpr z)
              rw [if_neg b0] at hq
              exact io_fin hq
            · rw [if_pos ((io_b v hv 104 (by omega)).mp a)] at hq; exact hq
          · rw [if_pos ((io_b v hv 106 (by omega)).mp a)] at hq; exact hq
        · rw [if_pos ((io_b v hv 99 (by omega)).mp a)] at hq; exact hq
      · rw [if_pos ((io_b v hv 113 (by omega)).mp a)] at hq; exact hq
    · rw [if_pos ((io_b v hv 108 (by omega)).mp a)] at hq; exact hq
  · rw [if_pos ((io_b v hv 115 (by omega)).mp a)] at hq; exact hq
theorem io_H {v : Nat} (hv : v < 256) {p : Int32} (hp : p = nI v) (hq : Q (if tx_kH v < 6 then nI (tx_kH v) else -1) h) : wp_J0_indexOf_0f7a4 h 1 p Q := by
  refine io_pre rfl hv hp ?_
  unfold tx_kH at hq
  refine io_st rfl (by omega) (fun a0 => ?_) (fun a => ?_)
  · have b0 : ¬ v = 104 := fun z => a0 ((io_b v hv 104 (by omega)).mpr z)
    rw [if_neg b0] at hq
    refine io_st rfl (by omega) (fun a0 => ?_) (fun a => ?_)
    · have b0 : ¬ v = 119 := fun z => a0 ((io_b v hv 119 (by omega)).mpr z)
      rw [if_neg b0] at hq
      refine io_st rfl (by omega) (fun a0 => ?_) (fun a => ?_)
      · have b0 : ¬ v = 100 := fun z => a0 ((io_b v hv 100 (by omega)).mpr z)
        rw [if_neg b0] at hq
        refine io_st rfl (by omega) (fun a0 => ?_) (fun a => ?_)
        · have b0 : ¬ v = 116 := fun z => a0 ((io_b v hv 116 (by omega)).mpr z)
          rw [if_neg b0] at hq
          refine io_st rfl (by omega) (fun a0 => ?_) (fun a => ?_)
          · have b0 : ¬ v = 98 := fun z => a0 ((io_b v hv 98 (by omega)).mpr z)
            rw [if_neg b0] at hq
            refine io_st rfl (by omega) (fun a0 => ?_) (fun a => ?_)
            · have b0 : ¬ v = 121 := fun z => a0 ((io_b v hv 121 (by omega)).mpr z)
              rw [if_neg b0] at hq
              exact io_fin hq
            · rw [if_pos ((io_b v hv 121 (by omega)).mp a)] at hq; exact hq
          · rw [if_pos ((io_b v hv 98 (by omega)).mp a)] at hq; exact hq
        · rw [if_pos ((io_b v hv 116 (by omega)).mp a)] at hq; exact hq
      · rw [if_pos ((io_b v hv 100 (by omega)).mp a)] at hq; exact hq
    · rw [if_pos ((io_b v hv 119 (by omega)).mp a)] at hq; exact hq
  · rw [if_pos ((io_b v hv 104 (by omega)).mp a)] at hq; exact hq
theorem io_ch : ∀ v, v < 256 → ((nI v).toUInt32 % 65536).toInt32 = nI v := by decide +kernel
theorem t_kd (T : tx_T h n w) {p : Int32} (s : Nat) (e : p = nI s) (hs : s < n) (f : ¬ s + 1 < n → Q (-1) h) (gS : s + 1 < n → w s = 115 → Q (if tx_kS (w (s + 1)) < 6 then nI (tx_kS (w (s + 1))) else -1) h) (gH : s + 1 < n → ¬ w s = 115 → Q (if tx_kH (w (s + 1)) < 6 then nI (tx_kH (w (s + 1))) else -1) h) : wp_X4_kind h p Q := by
  have h96 := T.1
  subst e
  unfold wp_X4_kind
  refine t_sg T (s + 1) (nI_1 s) (by omega) ?_
  by_cases g : s + 1 < n
  · rw [if_pos g]
    have hv := (T.2.2 (s + 1) g).1
    have hs2 := (T.2.2 s hs).1
    refine br_t (nI_pos' (by omega)) (t_sg T s rfl (by omega) ?_)
    rw [if_pos hs, io_ch _ hv]
    exact pk_ne (w s) 115 (fun z => io_H hv rfl (gH g z)) (fun z => io_S hv rfl (gS g z)) rfl rfl (by omega) (by omega)
  · rw [if_neg g]
    exact br_f (by decide) (f g)
/-! where the next statement is -/
def tx_bv (x : Bool × Nat) : Int32 := if x.1 then nI x.2 else -1 - nI x.2
theorem t_bl (T : tx_T h n w) {p1 : Int32} {p least : Nat} (hp : p < 200) (hl : least ≤ 2) (hq : Q (tx_bv (tx_e n w least p)) h) :
    wk_X4_behindStatement_90 p1 Q (nI p) (nI least) h := by
  have fin : ∀ c, c ≤ 2 → tx_n n w p = c → wk_X4_behindStatement_116 p1 Q (nI (p + c)) (nI least) (nI c) h := by
    intro c hc hn
    unfold wk_X4_behindStatement_116
    unfold tx_e at hq
    rw [hn] at hq
    refine pk_lt c least (fun g => ?_) (fun g => t_sg T (p + c) rfl (by omega) ?_) rfl rfl (by omega) (by omega)
    · rw [if_pos g] at hq; exact hq
    · rw [if_neg (by omega)] at hq
      by_cases g2 : p + c < n
      · rw [if_pos g2]
        have hb := (T.2.2 _ g2).1
        refine pk_ne (w (p + c)) 59 (fun z => ?_) (fun z => ?_) rfl rfl (by omega) (by omega)
        · rw [if_neg (by omega)] at hq; exact hq
        · rw [if_pos ⟨g2, z⟩] at hq
          rw [nI_1]; exact hq
      · rw [if_neg g2]
        rw [if_neg (by omega)] at hq
        exact bn_f (by decide) hq
  unfold wk_X4_behindStatement_90
  refine ⟨3, ?_⟩
  unfold wl_X4_behindStatement_93
  refine br_f (by decide) (t_id T p rfl (by omega) ?_)
  by_cases g : tx_d n w p = true
  · rw [if_pos g]
    refine br_f rr_dec1 ?_
    unfold wl_X4_behindStatement_93
    rw [nI_1]
    refine br_f (by decide) (t_id T (p + 1) rfl (by omega) ?_)
    by_cases g2 : tx_d n w (p + 1) = true
    · rw [if_pos g2]
      refine br_f rr_dec1 ?_
      unfold wl_X4_behindStatement_93
      rw [nI_1]
      exact br_t (by decide) (fin 2 (by omega) (by unfold tx_n; rw [if_pos g, if_pos g2]))
    · rw [if_neg g2]
      exact br_t rfl (fin 1 (by omega) (by unfold tx_n; rw [if_pos g, if_neg g2]))
  · rw [if_neg g]
    exact br_t rfl (fin 0 (by omega) (by unfold tx_n; rw [if_neg g]))
theorem t_bs (T : tx_T h n w) {p : Int32} (s : Nat) (e : p = nI s) (hs : s < 150) (hq : Q (tx_bv (tx_b n w s)) h) : wp_X4_behindStatement h p Q := by
  have h96 := T.1
  subst e
  unfold tx_b at hq
  unfold wp_X4_behindStatement
  refine t_sg T s rfl (by omega) ?_
  by_cases g : s < n
  · rw [if_pos g] at hq ⊢
    have hb := (T.2.2 s g).1
    rw [nI_1]
    refine pk_eq (w s) 100 (fun z => ?_) (fun z => ?_) rfl rfl (by omega) (by omega)
    · rw [if_pos z] at hq
      unfold wk_X4_behindStatement_60
      exact t_bl T (least := 2) (by omega) (by omega) hq
    · rw [if_neg z] at hq
      refine pk_eq (w s) 103 (fun z => ?_) (fun z => ?_) rfl rfl (by omega) (by omega)
      · rw [if_pos z] at hq
        unfold wk_X4_behindStatement_60
        exact t_bl T (least := 2) (by omega) (by omega) hq
      · rw [if_neg z] at hq
        refine pk_eq (w s) 104 (fun z => ?_) (fun z => ?_) rfl rfl (by omega) (by omega)
        · rw [if_pos z] at hq
          unfold wk_X4_behindStatement_63
          refine t_kd T s rfl g (fun y => ?_) (fun _ y => by omega) (fun y1 y2 => ?_)
          · rw [if_neg (by omega)] at hq
            exact br_f (by decide) hq
          · by_cases k6 : tx_kH (w (s + 1)) < 6
            · rw [if_pos ⟨y1, k6⟩] at hq
              rw [if_pos k6, nI_1]
              exact br_t (nI_pos' (by omega)) (t_bl T (least := 2) (by omega) (by omega) hq)
            · rw [if_neg (by omega)] at hq
              rw [if_neg k6]
              exact br_f (by decide) hq
        · rw [if_neg z] at hq
          refine pk_eq (w s) 111 (fun z => ?_) (fun z => ?_) rfl rfl (by omega) (by omega)
          · rw [if_pos z] at hq
            exact t_bl T (least := 1) (by omega) (by omega) hq
          · rw [if_neg z] at hq
            refine pk_eq (w s) 115 (fun z => ?_) (fun z => ?_) rfl rfl (by omega) (by omega)
            · rw [if_pos z] at hq
              unfold wk_X4_behindStatement_63
              refine t_kd T s rfl g (fun y => ?_) (fun y1 y2 => ?_) (fun _ y => absurd z y)
              · rw [if_neg (by omega)] at hq
                exact br_f (by decide) hq
              · by_cases k6 : tx_kS (w (s + 1)) < 6
                · rw [if_pos ⟨y1, k6⟩] at hq
                  rw [if_pos k6, nI_1]
                  exact br_t (nI_pos' (by omega)) (t_bl T (least := 2) (by omega) (by omega) hq)
                · rw [if_neg (by omega)] at hq
                  rw [if_neg k6]
                  exact br_f (by decide) hq
            · rw [if_neg z] at hq; exact hq
  · rw [if_neg g] at hq ⊢
    exact br_f (by decide) (br_f (by decide) (br_f (by decide) (br_f (by decide) (br_f (by decide) hq))))
end TX2
