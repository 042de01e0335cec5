def wp_X1_lose (h : gw_H) (b : Nat) (p1 : Int32) (Q : Int32 → gw_H → Prop) : Prop :=
  (wp_X5_put h (b + 13) 6 p1 (-9 : Int32) (fun _ h_1 => (wp_X5_put h_1 (b + 14) 6 p1 (0 : Int32) (fun _ h_2 => (wp_X5_put h_2 (b + 16) 6 p1 (-9 : Int32) (fun _ h_3 => (wp_X5_put h_3 (b + 17) 6 p1 (-9 : Int32) (fun _ h_4 => Q 0 h_4))))))))
set_option maxRecDepth 100000 in
set_option maxHeartbeats 4000000 in
theorem gc_X1_lose {l : Launch} {ad : Nat → Nat} {h : gw_H} {b : Nat} {p1 : Int32} {Q : Int32 → gw_H → Prop} (hb : gw_b b) (hw : wp_X1_lose h b p1 Q) : gw_C l yX1_lose cX1_lose 2 none 1 22 vC ad [.ref (ad (b + 9)), .int p1] h Q := by
  refine gw_entry (own := RX1) [some (.ref (ad (b + 9))), some (.int p1)] pl_X1 rfl rfl (Nat.le_of_ble_eq_true rfl) rfl (fun X => ?_)
  unfold wp_X1_lose at hw
  refine gw_aload_n dX1_lose_0 rfl rfl ?_
  refine gw_getf (k := 3) (v := .ref (ad (b + 13))) (oX1 hb) clX1 inUX1 (Nat.le_of_ble_eq_true rfl) rfl lfX1_21 rfl dX1_lose_1 ?_
  refine gw_iload_n dX1_lose_4 rfl rfl ?_
  refine gw_bipush dX1_lose_5 bp_m9 ?_
  refine gw_callNv (As := [.ref (ad (b + 13)), .int p1, .int (-9 : Int32)]) (rest := []) rfl (gc_X5_put (ar_13 hb) hw) mX5_put lmX1_44 rfl rfl ⟨Nat.le_of_ble_eq_true rfl, Nat.le_of_ble_eq_true rfl⟩ (Nat.le_of_ble_eq_true rfl) dX1_lose_7 (fun h_1 hw => ?_)
  refine gw_aload_n dX1_lose_10 rfl rfl ?_
  refine gw_getf (k := 4) (v := .ref (ad (b + 14))) (oX1 hb) clX1 inUX1 (Nat.le_of_ble_eq_true rfl) rfl lfX1_24 rfl dX1_lose_11 ?_
  refine gw_iload_n dX1_lose_14 rfl rfl ?_
  refine gw_iconst dX1_lose_15 ic_0 ?_
  refine gw_callNv (As := [.ref (ad (b + 14)), .int p1, .int (0 : Int32)]) (rest := []) rfl (gc_X5_put (ar_14 hb) hw) mX5_put lmX1_44 rfl rfl ⟨Nat.le_of_ble_eq_true rfl, Nat.le_of_ble_eq_true rfl⟩ (Nat.le_of_ble_eq_true rfl) dX1_lose_16 (fun h_2 hw => ?_)
  refine gw_aload_n dX1_lose_19 rfl rfl ?_
  refine gw_getf (k := 6) (v := .ref (ad (b + 16))) (oX1 hb) clX1 inUX1 (Nat.le_of_ble_eq_true rfl) rfl lfX1_30 rfl dX1_lose_20 ?_
  refine gw_iload_n dX1_lose_23 rfl rfl ?_
  refine gw_bipush dX1_lose_24 bp_m9 ?_
  refine gw_callNv (As := [.ref (ad (b + 16)), .int p1, .int (-9 : Int32)]) (rest := []) rfl (gc_X5_put (ar_16 hb) hw) mX5_put lmX1_44 rfl rfl ⟨Nat.le_of_ble_eq_true rfl, Nat.le_of_ble_eq_true rfl⟩ (Nat.le_of_ble_eq_true rfl) dX1_lose_26 (fun h_3 hw => ?_)
  refine gw_aload_n dX1_lose_29 rfl rfl ?_
  refine gw_getf (k := 7) (v := .ref (ad (b + 17))) (oX1 hb) clX1 inUX1 (Nat.le_of_ble_eq_true rfl) rfl lfX1_33 rfl dX1_lose_30 ?_
  refine gw_iload_n dX1_lose_33 rfl rfl ?_
  refine gw_bipush dX1_lose_34 bp_m9 ?_
  refine gw_callNv (As := [.ref (ad (b + 17)), .int p1, .int (-9 : Int32)]) (rest := []) rfl (gc_X5_put (ar_17 hb) hw) mX5_put lmX1_44 rfl rfl ⟨Nat.le_of_ble_eq_true rfl, Nat.le_of_ble_eq_true rfl⟩ (Nat.le_of_ble_eq_true rfl) dX1_lose_36 (fun h_4 hw => ?_)
  exact gw_return hw rfl dX1_lose_39
def wp_X1_add (h : gw_H) (b : Nat) (p1 : Int32) (p2 : Int32) (p3 : Int32) (Q : Int32 → gw_H → Prop) : Prop :=
  (((6 : Int32) ≤ (h (b + 9) 8) → Q (0 : Int32) h) ∧ (¬ (6 : Int32) ≤ (h (b + 9) 8) → (wp_X5_isRoom h p2 (fun r_3 h_2 => ((¬ r_3 = 0 → (wp_X5_put h_2 (b + 10) 6 (h_2 (b + 9) 8) p1 (fun _ h_5 => (wp_X5_put h_5 (b + 11) 6 (h_5 (b + 9) 8) p2 (fun _ h_6 => (wp_X5_put h_6 (b + 12) 6 (h_6 (b + 9) 8) p3 (fun _ h_7 => (wp_X5_put h_7 (b + 15) 6 (h_7 (b + 9) 8) (0 : Int32) (fun _ h_8 => (wp_X1_lose h_8 b (h_8 (b + 9) 8) (fun _ h_9 => Q (1 : Int32) (gw_up h_9 (b + 9) 8 ((h_9 (b + 9) 8) + (1 : Int32)))))))))))))) ∧ (r_3 = 0 → Q (0 : Int32) h_2))))))
set_option maxRecDepth 100000 in
set_option maxHeartbeats 4000000 in
theorem gc_X1_add {l : Launch} {ad : Nat → Nat} {h : gw_H} {b : Nat} {p1 : Int32} {p2 : Int32} {p3 : Int32} {Q : Int32 → gw_H → Prop} (hb : gw_b b) (hw : wp_X1_add h b p1 p2 p3 Q) : gw_C l yX1_add cX1_add 4 (some .boolean) 2 43 vC ad [.ref (ad (b + 9)), .int p1, .int p2, .int p3] h Q := by
  refine gw_entry (own := RX1) [some (.ref (ad (b + 9))), some (.int p1), some (.int p2), some (.int p3)] pl_X1 rfl rfl (Nat.le_of_ble_eq_true rfl) rfl (fun X => ?_)
  unfold wp_X1_add at hw
  refine gw_aload_n dX1_add_0 rfl rfl ?_
  refine gw_getf (k := 8) (v := .int (h (b + 9) 8)) (oX1 hb) clX1 inUX1 (Nat.le_of_ble_eq_true rfl) rfl lfX1_36 rfl dX1_add_1 ?_
  refine gw_bipush dX1_add_4 bp_6 ?_
  refine gw_icmp_ge (tgt := 16) dX1_add_6 (by decide) (fun c_1 => ?_) (fun c_1 => ?_)
  · have hw := hw.1 c_1
    refine gw_iconst dX1_add_16 ic_0 ?_
    exact gw_ireturn (ty := .boolean) hw rfl rfl dX1_add_17
  · have hw := hw.2 c_1
    refine gw_iload_n dX1_add_9 rfl rfl ?_
    refine gw_callNi (As := [.int p2]) (rest := []) rfl (gc_X5_isRoom  hw) mX5_isRoom lmX1_40 rfl rfl ⟨Nat.le_of_ble_eq_true rfl, Nat.le_of_ble_eq_true rfl⟩ (Nat.le_of_ble_eq_true rfl) dX1_add_10 (fun r_3 h_2 hw => ?_)
    refine gw_if_ne (tgt := 18) dX1_add_13 (by decide) (fun c_4 => ?_) (fun c_4 => ?_)
    · have hw := hw.1 c_4
      refine gw_aload_n dX1_add_18 rfl rfl ?_
      refine gw_getf (k := 0) (v := .ref (ad (b + 10))) (oX1 hb) clX1 inUX1 (Nat.le_of_ble_eq_true rfl) rfl lfX1_9 rfl dX1_add_19 ?_
      refine gw_aload_n dX1_add_22 rfl rfl ?_
      refine gw_getf (k := 8) (v := .int (h_2 (b + 9) 8)) (oX1 hb) clX1 inUX1 (Nat.le_of_ble_eq_true rfl) rfl lfX1_36 rfl dX1_add_23 ?_
      refine gw_iload_n dX1_add_26 rfl rfl ?_
      refine gw_callNv (As := [.ref (ad (b + 10)), .int (h_2 (b + 9) 8), .int p1]) (rest := []) rfl (gc_X5_put (ar_10 hb) hw) mX5_put lmX1_44 rfl rfl ⟨Nat.le_of_ble_eq_true rfl, Nat.le_of_ble_eq_true rfl⟩ (Nat.le_of_ble_eq_true rfl) dX1_add_27 (fun h_5 hw => ?_)
      refine gw_aload_n dX1_add_30 rfl rfl ?_
      refine gw_getf (k := 1) (v := .ref (ad (b + 11))) (oX1 hb) clX1 inUX1 (Nat.le_of_ble_eq_true rfl) rfl lfX1_15 rfl dX1_add_31 ?_
      refine gw_aload_n dX1_add_34 rfl rfl ?_
      refine gw_getf (k := 8) (v := .int (h_5 (b + 9) 8)) (oX1 hb) clX1 inUX1 (Nat.le_of_ble_eq_true rfl) rfl lfX1_36 rfl dX1_add_35 ?_
      refine gw_iload_n dX1_add_38 rfl rfl ?_
      refine gw_callNv (As := [.ref (ad (b + 11)), .int (h_5 (b + 9) 8), .int p2]) (rest := []) rfl (gc_X5_put (ar_11 hb) hw) mX5_put lmX1_44 rfl rfl ⟨Nat.le_of_ble_eq_true rfl, Nat.le_of_ble_eq_true rfl⟩ (Nat.le_of_ble_eq_true rfl) dX1_add_39 (fun h_6 hw => ?_)
      refine gw_aload_n dX1_add_42 rfl rfl ?_
      refine gw_getf (k := 2) (v := .ref (ad (b + 12))) (oX1 hb) clX1 inUX1 (Nat.le_of_ble_eq_true rfl) rfl lfX1_18 rfl dX1_add_43 ?_
      refine gw_aload_n dX1_add_46 rfl rfl ?_
      refine gw_getf (k := 8) (v := .int (h_6 (b + 9) 8)) (oX1 hb) clX1 inUX1 (Nat.le_of_ble_eq_true rfl) rfl lfX1_36 rfl dX1_add_47 ?_
      refine gw_iload_n dX1_add_50 rfl rfl ?_
      refine gw_callNv (As := [.ref (ad (b + 12)), .int (h_6 (b + 9) 8), .int p3]) (rest := []) rfl (gc_X5_put (ar_12 hb) hw) mX5_put lmX1_44 rfl rfl ⟨Nat.le_of_ble_eq_true rfl, Nat.le_of_ble_eq_true rfl⟩ (Nat.le_of_ble_eq_true rfl) dX1_add_51 (fun h_7 hw => ?_)
      refine gw_aload_n dX1_add_54 rfl rfl ?_
      refine gw_getf (k := 5) (v := .ref (ad (b + 15))) (oX1 hb) clX1 inUX1 (Nat.le_of_ble_eq_true rfl) rfl lfX1_27 rfl dX1_add_55 ?_
      refine gw_aload_n dX1_add_58 rfl rfl ?_
      refine gw_getf (k := 8) (v := .int (h_7 (b + 9) 8)) (oX1 hb) clX1 inUX1 (Nat.le_of_ble_eq_true rfl) rfl lfX1_36 rfl dX1_add_59 ?_
      refine gw_iconst dX1_add_62 ic_0 ?_
      refine gw_callNv (As := [.ref (ad (b + 15)), .int (h_7 (b + 9) 8), .int (0 : Int32)]) (rest := []) rfl (gc_X5_put (ar_15 hb) hw) mX5_put lmX1_44 rfl rfl ⟨Nat.le_of_ble_eq_true rfl, Nat.le_of_ble_eq_true rfl⟩ (Nat.le_of_ble_eq_true rfl) dX1_add_63 (fun h_8 hw => ?_)
      refine gw_aload_n dX1_add_66 rfl rfl ?_
      refine gw_aload_n dX1_add_67 rfl rfl ?_
      refine gw_getf (k := 8) (v := .int (h_8 (b + 9) 8)) (oX1 hb) clX1 inUX1 (Nat.le_of_ble_eq_true rfl) rfl lfX1_36 rfl dX1_add_68 ?_
      refine gw_callVv (As := [.int (h_8 (b + 9) 8)]) (rest := []) rfl (gc_X1_lose hb hw) mX1_lose lmX1_48 (oX1 hb) clX1 rfl rfl ⟨Nat.le_of_ble_eq_true rfl, Nat.le_of_ble_eq_true rfl⟩ (Nat.le_of_ble_eq_true rfl) dX1_add_71 (fun h_9 hw => ?_)
      refine gw_aload_n dX1_add_74 rfl rfl ?_
      refine gw_dup dX1_add_75 rfl ?_
      refine gw_getf (k := 8) (v := .int (h_9 (b + 9) 8)) (oX1 hb) clX1 inUX1 (Nat.le_of_ble_eq_true rfl) rfl lfX1_36 rfl dX1_add_76 ?_
      refine gw_iconst dX1_add_79 ic_1 ?_
      refine gw_iadd dX1_add_80 ?_
      refine gw_putf (k := 8) (ty := .int) (oX1 hb) clX1 inUX1 tyX1_ok nmX1 (Nat.le_of_ble_eq_true rfl) rfl lfX1_36 (by decide +kernel) rfl rfl st_X1_8 dX1_add_81 ?_
      refine gw_iconst dX1_add_84 ic_1 ?_
      exact gw_ireturn (ty := .boolean) hw rfl rfl dX1_add_85
    · have hw := hw.2 c_4
      refine gw_iconst dX1_add_16 ic_0 ?_
      exact gw_ireturn (ty := .boolean) hw rfl rfl dX1_add_17
def wl_X1_allStrength_4 (b : Nat)  (Q : Int32 → gw_H → Prop) : Nat → Int32 → Int32 → gw_H → Prop
  | 0 => fun _ _ _ => False
  | n + 1 => fun x1 x2 h => (((h (b + 9) 8) ≤ x2 → Q x1 h) ∧ (¬ (h (b + 9) 8) ≤ x2 → (wp_X5_at h (b + 14) 6 x2 (fun r_3 h_2 => ((wl_X1_allStrength_4 b  Q n) (x1 + r_3) (x2 + (1 : Int32)) h_2)))))
set_option maxRecDepth 100000 in
set_option maxHeartbeats 4000000 in
theorem tl_X1_allStrength_4 {l : Launch} {ad : Nat → Nat} {X : gw_X} {b : Nat}  {Q : Int32 → gw_H → Prop} (hb : gw_b b)  : ∀ (n : Nat) (x1 : Int32) (x2 : Int32) (h : gw_H), wl_X1_allStrength_4 b  Q n x1 x2 h → gw_G l vC ad cX1_allStrength RX1 3 (some .int) 1 21 Q X h 4 [some (.ref (ad (b + 9))), some (.int x1), some (.int x2)] [] := by
  intro n
  induction n with
  | zero => intro x1 x2 h hw; exact hw.elim
  | succ n ih =>
    intro x1 x2 h hw
    unfold wl_X1_allStrength_4 at hw
    refine gw_iload_n dX1_allStrength_4 rfl rfl ?_
    refine gw_aload_n dX1_allStrength_5 rfl rfl ?_
    refine gw_getf (k := 8) (v := .int (h (b + 9) 8)) (oX1 hb) clX1 inUX1 (Nat.le_of_ble_eq_true rfl) rfl lfX1_36 rfl dX1_allStrength_6 ?_
    refine gw_icmp_ge (tgt := 29) dX1_allStrength_9 (by decide) (fun c_1 => ?_) (fun c_1 => ?_)
    · have hw := hw.1 c_1
      refine gw_iload_n dX1_allStrength_29 rfl rfl ?_
      exact gw_ireturn (ty := .int) hw rfl rfl dX1_allStrength_30
    · have hw := hw.2 c_1
      refine gw_iload_n dX1_allStrength_12 rfl rfl ?_
      refine gw_aload_n dX1_allStrength_13 rfl rfl ?_
      refine gw_getf (k := 4) (v := .ref (ad (b + 14))) (oX1 hb) clX1 inUX1 (Nat.le_of_ble_eq_true rfl) rfl lfX1_24 rfl dX1_allStrength_14 ?_
      refine gw_iload_n dX1_allStrength_17 rfl rfl ?_
      refine gw_callNi (As := [.ref (ad (b + 14)), .int x2]) (rest := [.int x1]) rfl (gc_X5_at (ar_14 hb) hw) mX5_at lmX1_52 rfl rfl ⟨Nat.le_of_ble_eq_true rfl, Nat.le_of_ble_eq_true rfl⟩ (Nat.le_of_ble_eq_true rfl) dX1_allStrength_18 (fun r_3 h_2 hw => ?_)
      refine gw_iadd dX1_allStrength_21 ?_
      refine gw_istore_n (ls' := [some (.ref (ad (b + 9))), some (.int (x1 + r_3)), some (.int x2)]) dX1_allStrength_22 rfl (Nat.le_of_ble_eq_true rfl) rfl ?_
      refine gw_iinc (ls' := [some (.ref (ad (b + 9))), some (.int (x1 + r_3)), some (.int (x2 + (1 : Int32)))]) dX1_allStrength_23 rfl (congrArg (fun z => x2 + z) ic_1) (Nat.le_of_ble_eq_true rfl) rfl ?_
      refine gw_goto (tgt := 4) dX1_allStrength_26 (by decide) ?_
      exact ih (x1 + r_3) (x2 + (1 : Int32)) h_2 hw
def wp_X1_allStrength (h : gw_H) (b : Nat) (Q : Int32 → gw_H → Prop) : Prop :=
  (∃ n_4 : Nat, wl_X1_allStrength_4 b  Q n_4 (0 : Int32) (0 : Int32) h)
set_option maxRecDepth 100000 in
set_option maxHeartbeats 4000000 in
theorem gc_X1_allStrength {l : Launch} {ad : Nat → Nat} {h : gw_H} {b : Nat} {Q : Int32 → gw_H → Prop} (hb : gw_b b) (hw : wp_X1_allStrength h b Q) : gw_C l yX1_allStrength cX1_allStrength 3 (some .int) 1 21 vC ad [.ref (ad (b + 9))] h Q := by
  refine gw_entry (own := RX1) [some (.ref (ad (b + 9))), none, none] pl_X1 rfl rfl (Nat.le_of_ble_eq_true rfl) rfl (fun X => ?_)
  unfold wp_X1_allStrength at hw
  refine gw_iconst dX1_allStrength_0 ic_0 ?_
  refine gw_istore_n (ls' := [some (.ref (ad (b + 9))), some (.int (0 : Int32)), none]) dX1_allStrength_1 rfl (Nat.le_of_ble_eq_true rfl) rfl ?_
  refine gw_iconst dX1_allStrength_2 ic_0 ?_
  refine gw_istore_n (ls' := [some (.ref (ad (b + 9))), some (.int (0 : Int32)), some (.int (0 : Int32))]) dX1_allStrength_3 rfl (Nat.le_of_ble_eq_true rfl) rfl ?_
  obtain ⟨n_4, hw⟩ := hw
  exact tl_X1_allStrength_4 hb  n_4 (0 : Int32) (0 : Int32) h hw
def wp_X1_bar (h : gw_H) (b : Nat) (p1 : Int32) (Q : Int32 → gw_H → Prop) : Prop :=
  (wp_X5_at h (b + 10) 6 p1 (fun r_2 h_1 => ((r_2 = (2 : Int32) → Q (99 : Int32) h_1) ∧ (¬ r_2 = (2 : Int32) → ((r_2 = (3 : Int32) → (wp_X5_at h_1 (b + 12) 6 p1 (fun r_6 h_5 => Q (r_6 / (2 : Int32)) h_5))) ∧ (¬ r_2 = (3 : Int32) → ((r_2 = (4 : Int32) → (wp_X5_at h_1 (b + 12) 6 p1 (fun r_9 h_8 => Q (r_9 + (3 : Int32)) h_8))) ∧ (¬ r_2 = (4 : Int32) → ((r_2 = (5 : Int32) → Q (0 : Int32) h_1) ∧ (¬ r_2 = (5 : Int32) → (wp_X5_at h_1 (b + 12) 6 p1 (fun r_12 h_11 => Q r_12 h_11))))))))))))
set_option maxRecDepth 100000 in
set_option maxHeartbeats 4000000 in
theorem gc_X1_bar {l : Launch} {ad : Nat → Nat} {h : gw_H} {b : Nat} {p1 : Int32} {Q : Int32 → gw_H → Prop} (hb : gw_b b) (hw : wp_X1_bar h b p1 Q) : gw_C l yX1_bar cX1_bar 2 (some .int) 1 21 vC ad [.ref (ad (b + 9)), .int p1] h Q := by
  refine gw_entry (own := RX1) [some (.ref (ad (b + 9))), some (.int p1)] pl_X1 rfl rfl (Nat.le_of_ble_eq_true rfl) rfl (fun X => ?_)
  unfold wp_X1_bar at hw
  refine gw_aload_n dX1_bar_0 rfl rfl ?_
  refine gw_getf (k := 0) (v := .ref (ad (b + 10))) (oX1 hb) clX1 inUX1 (Nat.le_of_ble_eq_true rfl) rfl lfX1_9 rfl dX1_bar_1 ?_
  refine gw_iload_n dX1_bar_4 rfl rfl ?_
  refine gw_callNi (As := [.ref (ad (b + 10)), .int p1]) (rest := []) rfl (gc_X5_at (ar_10 hb) hw) mX5_at lmX1_52 rfl rfl ⟨Nat.le_of_ble_eq_true rfl, Nat.le_of_ble_eq_true rfl⟩ (Nat.le_of_ble_eq_true rfl) dX1_bar_5 (fun r_2 h_1 hw => ?_)
  by_cases c_3 : r_2 = (2 : Int32)
  · have hw := hw.1 c_3
    refine gw_tin (k := (2 : Int32)) (off := 32) (tgt := 40) dX1_bar_8 c_3 (by decide) (by decide) (by decide) (by decide) ?_
    refine gw_bipush dX1_bar_40 bp_99 ?_
    exact gw_ireturn (ty := .int) hw rfl rfl dX1_bar_42
  · have hw := hw.2 c_3
    by_cases c_4 : r_2 = (3 : Int32)
    · have hw := hw.1 c_4
      refine gw_tin (k := (3 : Int32)) (off := 35) (tgt := 43) dX1_bar_8 c_4 (by decide) (by decide) (by decide) (by decide) ?_
      refine gw_aload_n dX1_bar_43 rfl rfl ?_
      refine gw_getf (k := 2) (v := .ref (ad (b + 12))) (oX1 hb) clX1 inUX1 (Nat.le_of_ble_eq_true rfl) rfl lfX1_18 rfl dX1_bar_44 ?_
      refine gw_iload_n dX1_bar_47 rfl rfl ?_
      refine gw_callNi (As := [.ref (ad (b + 12)), .int p1]) (rest := []) rfl (gc_X5_at (ar_12 hb) hw) mX5_at lmX1_52 rfl rfl ⟨Nat.le_of_ble_eq_true rfl, Nat.le_of_ble_eq_true rfl⟩ (Nat.le_of_ble_eq_true rfl) dX1_bar_48 (fun r_6 h_5 hw => ?_)
      refine gw_iconst dX1_bar_51 ic_2 ?_
      refine gw_idiv dX1_bar_52 (by decide) ?_
      exact gw_ireturn (ty := .int) hw rfl rfl dX1_bar_53
    · have hw := hw.2 c_4
      by_cases c_7 : r_2 = (4 : Int32)
      · have hw := hw.1 c_7
        refine gw_tin (k := (4 : Int32)) (off := 46) (tgt := 54) dX1_bar_8 c_7 (by decide) (by decide) (by decide) (by decide) ?_
        refine gw_aload_n dX1_bar_54 rfl rfl ?_
        refine gw_getf (k := 2) (v := .ref (ad (b + 12))) (oX1 hb) clX1 inUX1 (Nat.le_of_ble_eq_true rfl) rfl lfX1_18 rfl dX1_bar_55 ?_
        refine gw_iload_n dX1_bar_58 rfl rfl ?_
        refine gw_callNi (As := [.ref (ad (b + 12)), .int p1]) (rest := []) rfl (gc_X5_at (ar_12 hb) hw) mX5_at lmX1_52 rfl rfl ⟨Nat.le_of_ble_eq_true rfl, Nat.le_of_ble_eq_true rfl⟩ (Nat.le_of_ble_eq_true rfl) dX1_bar_59 (fun r_9 h_8 hw => ?_)
        refine gw_iconst dX1_bar_62 ic_3 ?_
        refine gw_iadd dX1_bar_63 ?_
        exact gw_ireturn (ty := .int) hw rfl rfl dX1_bar_64
      · have hw := hw.2 c_7
        by_cases c_10 : r_2 = (5 : Int32)
        · have hw := hw.1 c_10
          refine gw_tin (k := (5 : Int32)) (off := 57) (tgt := 65) dX1_bar_8 c_10 (by decide) (by decide) (by decide) (by decide) ?_
          refine gw_iconst dX1_bar_65 ic_0 ?_
          exact gw_ireturn (ty := .int) hw rfl rfl dX1_bar_66
        · have hw := hw.2 c_10
          refine gw_tout (tgt := 67) dX1_bar_8 (by have q0 := lv_neT c_3 (a := 2) (by decide); have q1 := lv_neT c_4 (a := 3) (by decide); have q2 := lv_neT c_7 (a := 4) (by decide); have q3 := lv_neT c_10 (a := 5) (by decide); omega) (by decide) ?_
          refine gw_aload_n dX1_bar_67 rfl rfl ?_
          refine gw_getf (k := 2) (v := .ref (ad (b + 12))) (oX1 hb) clX1 inUX1 (Nat.le_of_ble_eq_true rfl) rfl lfX1_18 rfl dX1_bar_68 ?_
          refine gw_iload_n dX1_bar_71 rfl rfl ?_
          refine gw_callNi (As := [.ref (ad (b + 12)), .int p1]) (rest := []) rfl (gc_X5_at (ar_12 hb) hw) mX5_at lmX1_52 rfl rfl ⟨Nat.le_of_ble_eq_true rfl, Nat.le_of_ble_eq_true rfl⟩ (Nat.le_of_ble_eq_true rfl) dX1_bar_72 (fun r_12 h_11 hw => ?_)
          exact gw_ireturn (ty := .int) hw rfl rfl dX1_bar_75
def wp_X1_changePlaces (h : gw_H) (b : Nat) (p1 : Int32) (p2 : Int32) (Q : Int32 → gw_H → Prop) : Prop :=
  (wp_X5_at h (b + 11) 6 p1 (fun r_2 h_1 => (wp_X5_at h_1 (b + 11) 6 p2 (fun r_4 h_3 => (wp_X5_put h_3 (b + 11) 6 p1 r_4 (fun _ h_5 => (wp_X5_put h_5 (b + 11) 6 p2 r_2 (fun _ h_6 => Q 0 h_6))))))))
set_option maxRecDepth 100000 in
set_option maxHeartbeats 4000000 in
theorem gc_X1_changePlaces {l : Launch} {ad : Nat → Nat} {h : gw_H} {b : Nat} {p1 : Int32} {p2 : Int32} {Q : Int32 → gw_H → Prop} (hb : gw_b b) (hw : wp_X1_changePlaces h b p1 p2 Q) : gw_C l yX1_changePlaces cX1_changePlaces 4 none 1 22 vC ad [.ref (ad (b + 9)), .int p1, .int p2] h Q := by
  refine gw_entry (own := RX1) [some (.ref (ad (b + 9))), some (.int p1), some (.int p2), none] pl_X1 rfl rfl (Nat.le_of_ble_eq_true rfl) rfl (fun X => ?_)
  unfold wp_X1_changePlaces at hw
  refine gw_aload_n dX1_changePlaces_0 rfl rfl ?_
  refine gw_getf (k := 1) (v := .ref (ad (b + 11))) (oX1 hb) clX1 inUX1 (Nat.le_of_ble_eq_true rfl) rfl lfX1_15 rfl dX1_changePlaces_1 ?_
  refine gw_iload_n dX1_changePlaces_4 rfl rfl ?_
  refine gw_callNi (As := [.ref (ad (b + 11)), .int p1]) (rest := []) rfl (gc_X5_at (ar_11 hb) hw) mX5_at lmX1_52 rfl rfl ⟨Nat.le_of_ble_eq_true rfl, Nat.le_of_ble_eq_true rfl⟩ (Nat.le_of_ble_eq_true rfl) dX1_changePlaces_5 (fun r_2 h_1 hw => ?_)
  refine gw_istore_n (ls' := [some (.ref (ad (b + 9))), some (.int p1), some (.int p2), some (.int r_2)]) dX1_changePlaces_8 rfl (Nat.le_of_ble_eq_true rfl) rfl ?_
  refine gw_aload_n dX1_changePlaces_9 rfl rfl ?_
  refine gw_getf (k := 1) (v := .ref (ad (b + 11))) (oX1 hb) clX1 inUX1 (Nat.le_of_ble_eq_true rfl) rfl lfX1_15 rfl dX1_changePlaces_10 ?_
  refine gw_iload_n dX1_changePlaces_13 rfl rfl ?_
  refine gw_aload_n dX1_changePlaces_14 rfl rfl ?_
  refine gw_getf (k := 1) (v := .ref (ad (b + 11))) (oX1 hb) clX1 inUX1 (Nat.le_of_ble_eq_true rfl) rfl lfX1_15 rfl dX1_changePlaces_15 ?_
  refine gw_iload_n dX1_changePlaces_18 rfl rfl ?_
  refine gw_callNi (As := [.ref (ad (b + 11)), .int p2]) (rest := [.int p1, .ref (ad (b + 11))]) rfl (gc_X5_at (ar_11 hb) hw) mX5_at lmX1_52 rfl rfl ⟨Nat.le_of_ble_eq_true rfl, Nat.le_of_ble_eq_true rfl⟩ (Nat.le_of_ble_eq_true rfl) dX1_changePlaces_19 (fun r_4 h_3 hw => ?_)
  refine gw_callNv (As := [.ref (ad (b + 11)), .int p1, .int r_4]) (rest := []) rfl (gc_X5_put (ar_11 hb) hw) mX5_put lmX1_44 rfl rfl ⟨Nat.le_of_ble_eq_true rfl, Nat.le_of_ble_eq_true rfl⟩ (Nat.le_of_ble_eq_true rfl) dX1_changePlaces_22 (fun h_5 hw => ?_)
  refine gw_aload_n dX1_changePlaces_25 rfl rfl ?_
  refine gw_getf (k := 1) (v := .ref (ad (b + 11))) (oX1 hb) clX1 inUX1 (Nat.le_of_ble_eq_true rfl) rfl lfX1_15 rfl dX1_changePlaces_26 ?_
  refine gw_iload_n dX1_changePlaces_29 rfl rfl ?_
  refine gw_iload_n dX1_changePlaces_30 rfl rfl ?_
  refine gw_callNv (As := [.ref (ad (b + 11)), .int p2, .int r_2]) (rest := []) rfl (gc_X5_put (ar_11 hb) hw) mX5_put lmX1_44 rfl rfl ⟨Nat.le_of_ble_eq_true rfl, Nat.le_of_ble_eq_true rfl⟩ (Nat.le_of_ble_eq_true rfl) dX1_changePlaces_31 (fun h_6 hw => ?_)
  exact gw_return hw rfl dX1_changePlaces_34
def wp_X1_chew (h : gw_H) (b : Nat) (p1 : Int32) (Q : Int32 → gw_H → Prop) : Prop :=
  (wp_X5_at h (b + 15) 6 p1 (fun r_2 h_1 => (wp_X5_put h_1 (b + 15) 6 p1 (if (0 : Int32) < (r_2 - (1 : Int32)) then (r_2 - (1 : Int32)) else (0 : Int32)) (fun _ h_3 => Q 0 h_3))))
set_option maxRecDepth 100000 in
set_option maxHeartbeats 4000000 in
theorem gc_X1_chew {l : Launch} {ad : Nat → Nat} {h : gw_H} {b : Nat} {p1 : Int32} {Q : Int32 → gw_H → Prop} (hb : gw_b b) (hw : wp_X1_chew h b p1 Q) : gw_C l yX1_chew cX1_chew 2 none 1 22 vC ad [.ref (ad (b + 9)), .int p1] h Q := by
  refine gw_entry (own := RX1) [some (.ref (ad (b + 9))), some (.int p1)] pl_X1 rfl rfl (Nat.le_of_ble_eq_true rfl) rfl (fun X => ?_)
  unfold wp_X1_chew at hw
  refine gw_aload_n dX1_chew_0 rfl rfl ?_
  refine gw_getf (k := 5) (v := .ref (ad (b + 15))) (oX1 hb) clX1 inUX1 (Nat.le_of_ble_eq_true rfl) rfl lfX1_27 rfl dX1_chew_1 ?_
  refine gw_iload_n dX1_chew_4 rfl rfl ?_
  refine gw_iconst dX1_chew_5 ic_0 ?_
  refine gw_aload_n dX1_chew_6 rfl rfl ?_
  refine gw_getf (k := 5) (v := .ref (ad (b + 15))) (oX1 hb) clX1 inUX1 (Nat.le_of_ble_eq_true rfl) rfl lfX1_27 rfl dX1_chew_7 ?_
  refine gw_iload_n dX1_chew_10 rfl rfl ?_
  refine gw_callNi (As := [.ref (ad (b + 15)), .int p1]) (rest := [.int (0 : Int32), .int p1, .ref (ad (b + 15))]) rfl (gc_X5_at (ar_15 hb) hw) mX5_at lmX1_52 rfl rfl ⟨Nat.le_of_ble_eq_true rfl, Nat.le_of_ble_eq_true rfl⟩ (Nat.le_of_ble_eq_true rfl) dX1_chew_11 (fun r_2 h_1 hw => ?_)
  refine gw_iconst dX1_chew_14 ic_1 ?_
  refine gw_isub dX1_chew_15 ?_
  refine gw_mmax lmX1_65 ⟨Nat.le_of_ble_eq_true rfl, Nat.le_of_ble_eq_true rfl⟩ (Nat.le_of_ble_eq_true rfl) dX1_chew_16 ?_
  refine gw_callNv (As := [.ref (ad (b + 15)), .int p1, .int (if (0 : Int32) < (r_2 - (1 : Int32)) then (r_2 - (1 : Int32)) else (0 : Int32))]) (rest := []) rfl (gc_X5_put (ar_15 hb) hw) mX5_put lmX1_44 rfl rfl ⟨Nat.le_of_ble_eq_true rfl, Nat.le_of_ble_eq_true rfl⟩ (Nat.le_of_ble_eq_true rfl) dX1_chew_19 (fun h_3 hw => ?_)
  exact gw_return hw rfl dX1_chew_22
def wp_X1_has (h : gw_H) (b : Nat) (p1 : Int32) (Q : Int32 → gw_H → Prop) : Prop :=
  ((p1 < 0 → Q (0 : Int32) h) ∧ (¬ p1 < 0 → (((h (b + 9) 8) ≤ p1 → Q (0 : Int32) h) ∧ (¬ (h (b + 9) 8) ≤ p1 → Q (1 : Int32) h))))
set_option maxRecDepth 100000 in
set_option maxHeartbeats 4000000 in
theorem gc_X1_has {l : Launch} {ad : Nat → Nat} {h : gw_H} {b : Nat} {p1 : Int32} {Q : Int32 → gw_H → Prop} (hb : gw_b b) (hw : wp_X1_has h b p1 Q) : gw_C l yX1_has cX1_has 2 (some .boolean) 0 0 vC ad [.ref (ad (b + 9)), .int p1] h Q := by
  refine gw_entry (own := RX1) [some (.ref (ad (b + 9))), some (.int p1)] pl_X1 rfl rfl (Nat.le_of_ble_eq_true rfl) rfl (fun X => ?_)
  unfold wp_X1_has at hw
  refine gw_iload_n dX1_has_0 rfl rfl ?_
  refine gw_if_lt (tgt := 16) dX1_has_1 (by decide) (fun c_1 => ?_) (fun c_1 => ?_)
  · have hw := hw.1 c_1
    refine gw_iconst dX1_has_16 ic_0 ?_
    exact gw_ireturn (ty := .boolean) hw rfl rfl dX1_has_17
  · have hw := hw.2 c_1
    refine gw_iload_n dX1_has_4 rfl rfl ?_
    refine gw_aload_n dX1_has_5 rfl rfl ?_
    refine gw_getf (k := 8) (v := .int (h (b + 9) 8)) (oX1 hb) clX1 inUX1 (Nat.le_of_ble_eq_true rfl) rfl lfX1_36 rfl dX1_has_6 ?_
    refine gw_icmp_ge (tgt := 16) dX1_has_9 (by decide) (fun c_2 => ?_) (fun c_2 => ?_)
    · have hw := hw.1 c_2
      refine gw_iconst dX1_has_16 ic_0 ?_
      exact gw_ireturn (ty := .boolean) hw rfl rfl dX1_has_17
    · have hw := hw.2 c_2
      refine gw_iconst dX1_has_12 ic_1 ?_
      refine gw_goto (tgt := 17) dX1_has_13 (by decide) ?_
      exact gw_ireturn (ty := .boolean) hw rfl rfl dX1_has_17
def wp_X1_hasSong (h : gw_H) (b : Nat) (p1 : Int32) (Q : Int32 → gw_H → Prop) : Prop :=
  (wp_X5_at h (b + 13) 6 p1 (fun r_2 h_1 => ((r_2 = (-9 : Int32) → Q (0 : Int32) h_1) ∧ (¬ r_2 = (-9 : Int32) → Q (1 : Int32) h_1))))
set_option maxRecDepth 100000 in
set_option maxHeartbeats 4000000 in
theorem gc_X1_hasSong {l : Launch} {ad : Nat → Nat} {h : gw_H} {b : Nat} {p1 : Int32} {Q : Int32 → gw_H → Prop} (hb : gw_b b) (hw : wp_X1_hasSong h b p1 Q) : gw_C l yX1_hasSong cX1_hasSong 2 (some .boolean) 1 21 vC ad [.ref (ad (b + 9)), .int p1] h Q := by
  refine gw_entry (own := RX1) [some (.ref (ad (b + 9))), some (.int p1)] pl_X1 rfl rfl (Nat.le_of_ble_eq_true rfl) rfl (fun X => ?_)
  unfold wp_X1_hasSong at hw
  refine gw_aload_n dX1_hasSong_0 rfl rfl ?_
  refine gw_getf (k := 3) (v := .ref (ad (b + 13))) (oX1 hb) clX1 inUX1 (Nat.le_of_ble_eq_true rfl) rfl lfX1_21 rfl dX1_hasSong_1 ?_
  refine gw_iload_n dX1_hasSong_4 rfl rfl ?_
  refine gw_callNi (As := [.ref (ad (b + 13)), .int p1]) (rest := []) rfl (gc_X5_at (ar_13 hb) hw) mX5_at lmX1_52 rfl rfl ⟨Nat.le_of_ble_eq_true rfl, Nat.le_of_ble_eq_true rfl⟩ (Nat.le_of_ble_eq_true rfl) dX1_hasSong_5 (fun r_2 h_1 hw => ?_)
  refine gw_bipush dX1_hasSong_8 bp_m9 ?_
  refine gw_icmp_eq (tgt := 17) dX1_hasSong_10 (by decide) (fun c_3 => ?_) (fun c_3 => ?_)
  · have hw := hw.1 c_3
    refine gw_iconst dX1_hasSong_17 ic_0 ?_
    exact gw_ireturn (ty := .boolean) hw rfl rfl dX1_hasSong_18
  · have hw := hw.2 c_3
    refine gw_iconst dX1_hasSong_13 ic_1 ?_
    refine gw_goto (tgt := 18) dX1_hasSong_14 (by decide) ?_
    exact gw_ireturn (ty := .boolean) hw rfl rfl dX1_hasSong_18
def wk_X1_holders_51 (b : Nat) (p1 : Int32) (K4 : Int32 → Int32 → gw_H → Prop) (Q : Int32 → gw_H → Prop) : Int32 → Int32 → Int32 → gw_H → Prop :=
  fun x3 s0 s1 h => (K4 (s1 + s0) (x3 + (1 : Int32)) h)
set_option maxRecDepth 100000 in
set_option maxHeartbeats 4000000 in
theorem tk_X1_holders_51 {l : Launch} {ad : Nat → Nat} {X : gw_X} {b : Nat} {p1 : Int32} {K4 : Int32 → Int32 → gw_H → Prop} {Q : Int32 → gw_H → Prop} (hb : gw_b b) (hK4 : ∀ (y2 : Int32) (y3 : Int32) (h : gw_H), K4 y2 y3 h → gw_G l vC ad cX1_holders RX1 4 (some .int) 2 42 Q X h 4 [some (.ref (ad (b + 9))), some (.int p1), some (.int y2), some (.int y3)] []) (x3 : Int32) (s0 : Int32) (s1 : Int32) (h : gw_H) (hw : wk_X1_holders_51 b p1 K4 Q x3 s0 s1 h) : gw_G l vC ad cX1_holders RX1 4 (some .int) 2 42 Q X h 51 [some (.ref (ad (b + 9))), some (.int p1), none, some (.int x3)] [.int s0, .int s1] := by
  unfold wk_X1_holders_51 at hw
  refine gw_iadd dX1_holders_51 ?_
  refine gw_istore_n (ls' := [some (.ref (ad (b + 9))), some (.int p1), some (.int (s1 + s0)), some (.int x3)]) dX1_holders_52 rfl (Nat.le_of_ble_eq_true rfl) rfl ?_
  refine gw_iinc (ls' := [some (.ref (ad (b + 9))), some (.int p1), some (.int (s1 + s0)), some (.int (x3 + (1 : Int32)))]) dX1_holders_53 rfl (congrArg (fun z => x3 + z) ic_1) (Nat.le_of_ble_eq_true rfl) rfl ?_
  refine gw_goto (tgt := 4) dX1_holders_56 (by decide) ?_
  exact hK4 (s1 + s0) (x3 + (1 : Int32)) h hw
def wl_X1_holders_4 (b : Nat) (p1 : Int32)  (Q : Int32 → gw_H → Prop) : Nat → Int32 → Int32 → gw_H → Prop
  | 0 => fun _ _ _ => False
  | n + 1 => fun x2 x3 h => (((h (b + 9) 8) ≤ x3 → Q x2 h) ∧ (¬ (h (b + 9) 8) ≤ x3 → ((¬ p1 = (-1 : Int32) → (wp_X5_at h (b + 13) 6 x3 (fun r_4 h_3 => ((¬ r_4 = p1 → (wk_X1_holders_51 b p1 (wl_X1_holders_4 b p1  Q n) Q x3 (0 : Int32) x2 h_3)) ∧ (r_4 = p1 → (wk_X1_holders_51 b p1 (wl_X1_holders_4 b p1  Q n) Q x3 (1 : Int32) x2 h_3)))))) ∧ (p1 = (-1 : Int32) → (wp_X1_hasSong h b x3 (fun r_7 h_6 => ((r_7 = 0 → (wk_X1_holders_51 b p1 (wl_X1_holders_4 b p1  Q n) Q x3 (0 : Int32) x2 h_6)) ∧ (¬ r_7 = 0 → (wk_X1_holders_51 b p1 (wl_X1_holders_4 b p1  Q n) Q x3 (1 : Int32) x2 h_6)))))))))
set_option maxRecDepth 100000 in
set_option maxHeartbeats 4000000 in
theorem tl_X1_holders_4 {l : Launch} {ad : Nat → Nat} {X : gw_X} {b : Nat} {p1 : Int32}  {Q : Int32 → gw_H → Prop} (hb : gw_b b)  : ∀ (n : Nat) (x2 : Int32) (x3 : Int32) (h : gw_H), wl_X1_holders_4 b p1  Q n x2 x3 h → gw_G l vC ad cX1_holders RX1 4 (some .int) 2 42 Q X h 4 [some (.ref (ad (b + 9))), some (.int p1), some (.int x2), some (.int x3)] [] := by
  intro n
  induction n with
  | zero => intro x2 x3 h hw; exact hw.elim
  | succ n ih =>
    intro x2 x3 h hw
    unfold wl_X1_holders_4 at hw
    refine gw_iload_n dX1_holders_4 rfl rfl ?_
    refine gw_aload_n dX1_holders_5 rfl rfl ?_
    refine gw_getf (k := 8) (v := .int (h (b + 9) 8)) (oX1 hb) clX1 inUX1 (Nat.le_of_ble_eq_true rfl) rfl lfX1_36 rfl dX1_holders_6 ?_
    refine gw_icmp_ge (tgt := 59) dX1_holders_9 (by decide) (fun c_1 => ?_) (fun c_1 => ?_)
    · have hw := hw.1 c_1
      refine gw_iload_n dX1_holders_59 rfl rfl ?_
      exact gw_ireturn (ty := .int) hw rfl rfl dX1_holders_60
    · have hw := hw.2 c_1
      refine gw_iload_n dX1_holders_12 rfl rfl ?_
      refine gw_iload_n dX1_holders_13 rfl rfl ?_
      refine gw_iconst dX1_holders_14 ic_m1 ?_
      refine gw_icmp_ne (tgt := 34) dX1_holders_15 (by decide) (fun c_2 => ?_) (fun c_2 => ?_)
      · have hw := hw.1 c_2
        refine gw_aload_n dX1_holders_34 rfl rfl ?_
        refine gw_getf (k := 3) (v := .ref (ad (b + 13))) (oX1 hb) clX1 inUX1 (Nat.le_of_ble_eq_true rfl) rfl lfX1_21 rfl dX1_holders_35 ?_
        refine gw_iload_n dX1_holders_38 rfl rfl ?_
        refine gw_callNi (As := [.ref (ad (b + 13)), .int x3]) (rest := [.int x2]) rfl (gc_X5_at (ar_13 hb) hw) mX5_at lmX1_52 rfl rfl ⟨Nat.le_of_ble_eq_true rfl, Nat.le_of_ble_eq_true rfl⟩ (Nat.le_of_ble_eq_true rfl) dX1_holders_39 (fun r_4 h_3 hw => ?_)
        refine gw_iload_n dX1_holders_42 rfl rfl ?_
        refine gw_icmp_ne (tgt := 50) dX1_holders_43 (by decide) (fun c_5 => ?_) (fun c_5 => ?_)
        · have hw := hw.1 c_5
          refine gw_iconst dX1_holders_50 ic_0 ?_
          refine gw_forget (ls' := [some (.ref (ad (b + 9))), some (.int p1), none, some (.int x3)]) (gw_sub.s (gw_sub.s (gw_sub.n (gw_sub.s gw_sub.z)))) ?_
          exact tk_X1_holders_51 hb  ih x3 (0 : Int32) x2 h_3 hw
        · have hw := hw.2 c_5
          refine gw_iconst dX1_holders_46 ic_1 ?_
          refine gw_goto (tgt := 51) dX1_holders_47 (by decide) ?_
          refine gw_forget (ls' := [some (.ref (ad (b + 9))), some (.int p1), none, some (.int x3)]) (gw_sub.s (gw_sub.s (gw_sub.n (gw_sub.s gw_sub.z)))) ?_
          exact tk_X1_holders_51 hb  ih x3 (1 : Int32) x2 h_3 hw
      · have hw := hw.2 c_2
        refine gw_aload_n dX1_holders_18 rfl rfl ?_
        refine gw_iload_n dX1_holders_19 rfl rfl ?_
        refine gw_callVi (As := [.int x3]) (rest := [.int x2]) rfl (gc_X1_hasSong hb hw) mX1_hasSong lmX1_56 (oX1 hb) clX1 rfl rfl ⟨Nat.le_of_ble_eq_true rfl, Nat.le_of_ble_eq_true rfl⟩ (Nat.le_of_ble_eq_true rfl) dX1_holders_20 (fun r_7 h_6 hw => ?_)
        refine gw_if_eq (tgt := 30) dX1_holders_23 (by decide) (fun c_8 => ?_) (fun c_8 => ?_)
        · have hw := hw.1 c_8
          refine gw_iconst dX1_holders_30 ic_0 ?_
          refine gw_goto (tgt := 51) dX1_holders_31 (by decide) ?_
          refine gw_forget (ls' := [some (.ref (ad (b + 9))), some (.int p1), none, some (.int x3)]) (gw_sub.s (gw_sub.s (gw_sub.n (gw_sub.s gw_sub.z)))) ?_
          exact tk_X1_holders_51 hb  ih x3 (0 : Int32) x2 h_6 hw
        · have hw := hw.2 c_8
          refine gw_iconst dX1_holders_26 ic_1 ?_
          refine gw_goto (tgt := 51) dX1_holders_27 (by decide) ?_
          refine gw_forget (ls' := [some (.ref (ad (b + 9))), some (.int p1), none, some (.int x3)]) (gw_sub.s (gw_sub.s (gw_sub.n (gw_sub.s gw_sub.z)))) ?_
          exact tk_X1_holders_51 hb  ih x3 (1 : Int32) x2 h_6 hw
def wp_X1_holders (h : gw_H) (b : Nat) (p1 : Int32) (Q : Int32 → gw_H → Prop) : Prop :=
  (∃ n_9 : Nat, wl_X1_holders_4 b p1  Q n_9 (0 : Int32) (0 : Int32) h)
set_option maxRecDepth 100000 in
set_option maxHeartbeats 4000000 in
theorem gc_X1_holders {l : Launch} {ad : Nat → Nat} {h : gw_H} {b : Nat} {p1 : Int32} {Q : Int32 → gw_H → Prop} (hb : gw_b b) (hw : wp_X1_holders h b p1 Q) : gw_C l yX1_holders cX1_holders 4 (some .int) 2 42 vC ad [.ref (ad (b + 9)), .int p1] h Q := by
  refine gw_entry (own := RX1) [some (.ref (ad (b + 9))), some (.int p1), none, none] pl_X1 rfl rfl (Nat.le_of_ble_eq_true rfl) rfl (fun X => ?_)
  unfold wp_X1_holders at hw
  refine gw_iconst dX1_holders_0 ic_0 ?_
  refine gw_istore_n (ls' := [some (.ref (ad (b + 9))), some (.int p1), some (.int (0 : Int32)), none]) dX1_holders_1 rfl (Nat.le_of_ble_eq_true rfl) rfl ?_
  refine gw_iconst dX1_holders_2 ic_0 ?_
  refine gw_istore_n (ls' := [some (.ref (ad (b + 9))), some (.int p1), some (.int (0 : Int32)), some (.int (0 : Int32))]) dX1_holders_3 rfl (Nat.le_of_ble_eq_true rfl) rfl ?_
  obtain ⟨n_9, hw⟩ := hw
  exact tl_X1_holders_4 hb  n_9 (0 : Int32) (0 : Int32) h hw
def wk_X1_hums_72 (b : Nat) (p1 : Int32) (p2 : Int32) (p3 : Int32)  (Q : Int32 → gw_H → Prop) : gw_H → Prop :=
  fun h => (wp_X5_at h (b + 14) 6 p1 (fun r_8 h_7 => ((r_8 < p2 → Q (0 : Int32) h_7) ∧ (¬ r_8 < p2 → Q (1 : Int32) h_7))))
set_option maxRecDepth 100000 in
set_option maxHeartbeats 4000000 in
theorem tk_X1_hums_72 {l : Launch} {ad : Nat → Nat} {X : gw_X} {b : Nat} {p1 : Int32} {p2 : Int32} {p3 : Int32}  {Q : Int32 → gw_H → Prop} (hb : gw_b b)   (h : gw_H) (hw : wk_X1_hums_72 b p1 p2 p3  Q h) : gw_G l vC ad cX1_hums RX1 4 (some .boolean) 2 42 Q X h 72 [some (.ref (ad (b + 9))), some (.int p1), some (.int p2), some (.int p3)] [] := by
  unfold wk_X1_hums_72 at hw
  refine gw_aload_n dX1_hums_72 rfl rfl ?_
  refine gw_getf (k := 4) (v := .ref (ad (b + 14))) (oX1 hb) clX1 inUX1 (Nat.le_of_ble_eq_true rfl) rfl lfX1_24 rfl dX1_hums_73 ?_
  refine gw_iload_n dX1_hums_76 rfl rfl ?_
  refine gw_callNi (As := [.ref (ad (b + 14)), .int p1]) (rest := []) rfl (gc_X5_at (ar_14 hb) hw) mX5_at lmX1_52 rfl rfl ⟨Nat.le_of_ble_eq_true rfl, Nat.le_of_ble_eq_true rfl⟩ (Nat.le_of_ble_eq_true rfl) dX1_hums_77 (fun r_8 h_7 hw => ?_)
  refine gw_iload_n dX1_hums_80 rfl rfl ?_
  refine gw_icmp_lt (tgt := 88) dX1_hums_81 (by decide) (fun c_9 => ?_) (fun c_9 => ?_)
  · have hw := hw.1 c_9
    refine gw_iconst dX1_hums_88 ic_0 ?_
    exact gw_ireturn (ty := .boolean) hw rfl rfl dX1_hums_89
  · have hw := hw.2 c_9
    refine gw_iconst dX1_hums_84 ic_1 ?_
    refine gw_goto (tgt := 89) dX1_hums_85 (by decide) ?_
    exact gw_ireturn (ty := .boolean) hw rfl rfl dX1_hums_89
def wp_X1_hums (h : gw_H) (b : Nat) (p1 : Int32) (p2 : Int32) (p3 : Int32) (Q : Int32 → gw_H → Prop) : Prop :=
  (wp_X5_at h (b + 10) 6 p1 (fun r_2 h_1 => ((r_2 = (1 : Int32) → (wp_X1_hasSong h_1 b p1 (fun r_5 h_4 => (narrow .boolean (.int r_5) = .int r_5 ∧ Q r_5 h_4)))) ∧ (¬ r_2 = (1 : Int32) → ((r_2 = (2 : Int32) → (wk_X1_hums_72 b p1 p2 p3  Q h_1)) ∧ (¬ r_2 = (2 : Int32) → ((r_2 = (3 : Int32) → (wk_X1_hums_72 b p1 p2 p3  Q h_1)) ∧ (¬ r_2 = (3 : Int32) → ((r_2 = (4 : Int32) → Q (0 : Int32) h_1) ∧ (¬ r_2 = (4 : Int32) → ((r_2 = (5 : Int32) → (wp_X1_hasSong h_1 b p1 (fun r_14 h_13 => ((r_14 = 0 → Q (0 : Int32) h_13) ∧ (¬ r_14 = 0 → ((¬ (p3 - p3 / (2 : Int32) * (2 : Int32)) = 0 → Q (0 : Int32) h_13) ∧ ((p3 - p3 / (2 : Int32) * (2 : Int32)) = 0 → Q (1 : Int32) h_13))))))) ∧ (¬ r_2 = (5 : Int32) → (wk_X1_hums_72 b p1 p2 p3  Q h_1)))))))))))))
set_option maxRecDepth 100000 in
set_option maxHeartbeats 4000000 in
theorem gc_X1_hums {l : Launch} {ad : Nat → Nat} {h : gw_H} {b : Nat} {p1 : Int32} {p2 : Int32} {p3 : Int32} {Q : Int32 → gw_H → Prop} (hb : gw_b b) (hw : wp_X1_hums h b p1 p2 p3 Q) : gw_C l yX1_hums cX1_hums 4 (some .boolean) 2 42 vC ad [.ref (ad (b + 9)), .int p1, .int p2, .int p3] h Q := by
  refine gw_entry (own := RX1) [some (.ref (ad (b + 9))), some (.int p1), some (.int p2), some (.int p3)] pl_X1 rfl rfl (Nat.le_of_ble_eq_true rfl) rfl (fun X => ?_)
  unfold wp_X1_hums at hw
  refine gw_aload_n dX1_hums_0 rfl rfl ?_
  refine gw_getf (k := 0) (v := .ref (ad (b + 10))) (oX1 hb) clX1 inUX1 (Nat.le_of_ble_eq_true rfl) rfl lfX1_9 rfl dX1_hums_1 ?_
  refine gw_iload_n dX1_hums_4 rfl rfl ?_
  refine gw_callNi (As := [.ref (ad (b + 10)), .int p1]) (rest := []) rfl (gc_X5_at (ar_10 hb) hw) mX5_at lmX1_52 rfl rfl ⟨Nat.le_of_ble_eq_true rfl, Nat.le_of_ble_eq_true rfl⟩ (Nat.le_of_ble_eq_true rfl) dX1_hums_5 (fun r_2 h_1 hw => ?_)
  by_cases c_3 : r_2 = (1 : Int32)
  · have hw := hw.1 c_3
    refine gw_tin (k := (1 : Int32)) (off := 36) (tgt := 44) dX1_hums_8 c_3 (by decide) (by decide) (by decide) (by decide) ?_
    refine gw_aload_n dX1_hums_44 rfl rfl ?_
    refine gw_iload_n dX1_hums_45 rfl rfl ?_
    refine gw_callVi (As := [.int p1]) (rest := []) rfl (gc_X1_hasSong hb hw) mX1_hasSong lmX1_56 (oX1 hb) clX1 rfl rfl ⟨Nat.le_of_ble_eq_true rfl, Nat.le_of_ble_eq_true rfl⟩ (Nat.le_of_ble_eq_true rfl) dX1_hums_46 (fun r_5 h_4 hw => ?_)
    exact gw_ireturn (ty := .boolean) hw.2 rfl hw.1 dX1_hums_49
  · have hw := hw.2 c_3
    by_cases c_6 : r_2 = (2 : Int32)
    · have hw := hw.1 c_6
      refine gw_tin (k := (2 : Int32)) (off := 64) (tgt := 72) dX1_hums_8 c_6 (by decide) (by decide) (by decide) (by decide) ?_
      exact tk_X1_hums_72 hb  h_1 hw
    · have hw := hw.2 c_6
      by_cases c_10 : r_2 = (3 : Int32)
      · have hw := hw.1 c_10
        refine gw_tin (k := (3 : Int32)) (off := 64) (tgt := 72) dX1_hums_8 c_10 (by decide) (by decide) (by decide) (by decide) ?_
        exact tk_X1_hums_72 hb  h_1 hw
      · have hw := hw.2 c_10
        by_cases c_11 : r_2 = (4 : Int32)
        · have hw := hw.1 c_11
          refine gw_tin (k := (4 : Int32)) (off := 62) (tgt := 70) dX1_hums_8 c_11 (by decide) (by decide) (by decide) (by decide) ?_
          refine gw_iconst dX1_hums_70 ic_0 ?_
          exact gw_ireturn (ty := .boolean) hw rfl rfl dX1_hums_71
        · have hw := hw.2 c_11
          by_cases c_12 : r_2 = (5 : Int32)
          · have hw := hw.1 c_12
            refine gw_tin (k := (5 : Int32)) (off := 42) (tgt := 50) dX1_hums_8 c_12 (by decide) (by decide) (by decide) (by decide) ?_
            refine gw_aload_n dX1_hums_50 rfl rfl ?_
            refine gw_iload_n dX1_hums_51 rfl rfl ?_
            refine gw_callVi (As := [.int p1]) (rest := []) rfl (gc_X1_hasSong hb hw) mX1_hasSong lmX1_56 (oX1 hb) clX1 rfl rfl ⟨Nat.le_of_ble_eq_true rfl, Nat.le_of_ble_eq_true rfl⟩ (Nat.le_of_ble_eq_true rfl) dX1_hums_52 (fun r_14 h_13 hw => ?_)
            refine gw_if_eq (tgt := 68) dX1_hums_55 (by decide) (fun c_15 => ?_) (fun c_15 => ?_)
            · have hw := hw.1 c_15
              refine gw_iconst dX1_hums_68 ic_0 ?_
              exact gw_ireturn (ty := .boolean) hw rfl rfl dX1_hums_69
            · have hw := hw.2 c_15
              refine gw_iload_n dX1_hums_58 rfl rfl ?_
              refine gw_iconst dX1_hums_59 ic_2 ?_
              refine gw_irem dX1_hums_60 (by decide) ?_
              refine gw_if_ne (tgt := 68) dX1_hums_61 (by decide) (fun c_16 => ?_) (fun c_16 => ?_)
              · have hw := hw.1 c_16
                refine gw_iconst dX1_hums_68 ic_0 ?_
                exact gw_ireturn (ty := .boolean) hw rfl rfl dX1_hums_69
              · have hw := hw.2 c_16
                refine gw_iconst dX1_hums_64 ic_1 ?_
                refine gw_goto (tgt := 69) dX1_hums_65 (by decide) ?_
                exact gw_ireturn (ty := .boolean) hw rfl rfl dX1_hums_69
          · have hw := hw.2 c_12
            refine gw_tout (tgt := 72) dX1_hums_8 (by have q0 := lv_neT c_3 (a := 1) (by decide); have q1 := lv_neT c_6 (a := 2) (by decide); have q2 := lv_neT c_10 (a := 3) (by decide); have q3 := lv_neT c_11 (a := 4) (by decide); have q4 := lv_neT c_12 (a := 5) (by decide); omega) (by decide) ?_
            exact tk_X1_hums_72 hb  h_1 hw
def wp_X1_receive (h : gw_H) (b : Nat) (p1 : Int32) (p2 : Int32) (p3 : Int32) (p4 : Int32) (p5 : Int32) (Q : Int32 → gw_H → Prop) : Prop :=
  (wp_X5_put h (b + 13) 6 p1 p2 (fun _ h_1 => (wp_X5_put h_1 (b + 14) 6 p1 p3 (fun _ h_2 => (wp_X5_put h_2 (b + 16) 6 p1 p4 (fun _ h_3 => (wp_X5_put h_3 (b + 17) 6 p1 p5 (fun _ h_4 => Q 0 h_4))))))))
set_option maxRecDepth 100000 in
set_option maxHeartbeats 4000000 in
theorem gc_X1_receive {l : Launch} {ad : Nat → Nat} {h : gw_H} {b : Nat} {p1 : Int32} {p2 : Int32} {p3 : Int32} {p4 : Int32} {p5 : Int32} {Q : Int32 → gw_H → Prop} (hb : gw_b b) (hw : wp_X1_receive h b p1 p2 p3 p4 p5 Q) : gw_C l yX1_receive cX1_receive 6 none 1 22 vC ad [.ref (ad (b + 9)), .int p1, .int p2, .int p3, .int p4, .int p5] h Q := by
  refine gw_entry (own := RX1) [some (.ref (ad (b + 9))), some (.int p1), some (.int p2), some (.int p3), some (.int p4), some (.int p5)] pl_X1 rfl rfl (Nat.le_of_ble_eq_true rfl) rfl (fun X => ?_)
  unfold wp_X1_receive at hw
  refine gw_aload_n dX1_receive_0 rfl rfl ?_
  refine gw_getf (k := 3) (v := .ref (ad (b + 13))) (oX1 hb) clX1 inUX1 (Nat.le_of_ble_eq_true rfl) rfl lfX1_21 rfl dX1_receive_1 ?_
  refine gw_iload_n dX1_receive_4 rfl rfl ?_
  refine gw_iload_n dX1_receive_5 rfl rfl ?_
  refine gw_callNv (As := [.ref (ad (b + 13)), .int p1, .int p2]) (rest := []) rfl (gc_X5_put (ar_13 hb) hw) mX5_put lmX1_44 rfl rfl ⟨Nat.le_of_ble_eq_true rfl, Nat.le_of_ble_eq_true rfl⟩ (Nat.le_of_ble_eq_true rfl) dX1_receive_6 (fun h_1 hw => ?_)
  refine gw_aload_n dX1_receive_9 rfl rfl ?_
  refine gw_getf (k := 4) (v := .ref (ad (b + 14))) (oX1 hb) clX1 inUX1 (Nat.le_of_ble_eq_true rfl) rfl lfX1_24 rfl dX1_receive_10 ?_
  refine gw_iload_n dX1_receive_13 rfl rfl ?_
  refine gw_iload_n dX1_receive_14 rfl rfl ?_
  refine gw_callNv (As := [.ref (ad (b + 14)), .int p1, .int p3]) (rest := []) rfl (gc_X5_put (ar_14 hb) hw) mX5_put lmX1_44 rfl rfl ⟨Nat.le_of_ble_eq_true rfl, Nat.le_of_ble_eq_true rfl⟩ (Nat.le_of_ble_eq_true rfl) dX1_receive_15 (fun h_2 hw => ?_)
  refine gw_aload_n dX1_receive_18 rfl rfl ?_
  refine gw_getf (k := 6) (v := .ref (ad (b + 16))) (oX1 hb) clX1 inUX1 (Nat.le_of_ble_eq_true rfl) rfl lfX1_30 rfl dX1_receive_19 ?_
  refine gw_iload_n dX1_receive_22 rfl rfl ?_
  refine gw_iload dX1_receive_23 rfl ?_
  refine gw_callNv (As := [.ref (ad (b + 16)), .int p1, .int p4]) (rest := []) rfl (gc_X5_put (ar_16 hb) hw) mX5_put lmX1_44 rfl rfl ⟨Nat.le_of_ble_eq_true rfl, Nat.le_of_ble_eq_true rfl⟩ (Nat.le_of_ble_eq_true rfl) dX1_receive_25 (fun h_3 hw => ?_)
  refine gw_aload_n dX1_receive_28 rfl rfl ?_
  refine gw_getf (k := 7) (v := .ref (ad (b + 17))) (oX1 hb) clX1 inUX1 (Nat.le_of_ble_eq_true rfl) rfl lfX1_33 rfl dX1_receive_29 ?_
  refine gw_iload_n dX1_receive_32 rfl rfl ?_
  refine gw_iload dX1_receive_33 rfl ?_
  refine gw_callNv (As := [.ref (ad (b + 17)), .int p1, .int p5]) (rest := []) rfl (gc_X5_put (ar_17 hb) hw) mX5_put lmX1_44 rfl rfl ⟨Nat.le_of_ble_eq_true rfl, Nat.le_of_ble_eq_true rfl⟩ (Nat.le_of_ble_eq_true rfl) dX1_receive_35 (fun h_4 hw => ?_)
  exact gw_return hw rfl dX1_receive_38
def wk_X1_takeAs_125 (b : Nat) (b2 : Nat) (K76 : Int32 → gw_H → Prop) (Q : Int32 → gw_H → Prop) : Int32 → Int32 → Int32 → gw_H → Prop :=
  fun x2 s0 s1 h => (wp_X5_put h (b + 17) 6 s1 s0 (fun _ h_15 => (K76 (x2 + (1 : Int32)) h_15)))
set_option maxRecDepth 100000 in
set_option maxHeartbeats 4000000 in
theorem tk_X1_takeAs_125 {l : Launch} {ad : Nat → Nat} {X : gw_X} {b : Nat} {b2 : Nat} {K76 : Int32 → gw_H → Prop} {Q : Int32 → gw_H → Prop} (hb : gw_b b) (hb2 : gw_b b2) (hK76 : ∀ (y2 : Int32) (h : gw_H), K76 y2 h → gw_G l vC ad cX1_takeAs RX1 3 none 2 81 Q X h 76 [some (.ref (ad (b + 9))), some (.ref (ad (b2 + 9))), some (.int y2)] []) (x2 : Int32) (s0 : Int32) (s1 : Int32) (h : gw_H) (hw : wk_X1_takeAs_125 b b2 K76 Q x2 s0 s1 h) : gw_G l vC ad cX1_takeAs RX1 3 none 2 81 Q X h 125 [some (.ref (ad (b + 9))), some (.ref (ad (b2 + 9))), some (.int x2)] [.int s0, .int s1, .ref (ad (b + 17))] := by
  unfold wk_X1_takeAs_125 at hw
  refine gw_callNv (As := [.ref (ad (b + 17)), .int s1, .int s0]) (rest := []) rfl (gc_X5_put (ar_17 hb) hw) mX5_put lmX1_44 rfl rfl ⟨Nat.le_of_ble_eq_true rfl, Nat.le_of_ble_eq_true rfl⟩ (Nat.le_of_ble_eq_true rfl) dX1_takeAs_125 (fun h_15 hw => ?_)
  refine gw_iinc (ls' := [some (.ref (ad (b + 9))), some (.ref (ad (b2 + 9))), some (.int (x2 + (1 : Int32)))]) dX1_takeAs_128 rfl (congrArg (fun z => x2 + z) ic_1) (Nat.le_of_ble_eq_true rfl) rfl ?_
  refine gw_goto (tgt := 76) dX1_takeAs_131 (by decide) ?_
  exact hK76 (x2 + (1 : Int32)) h_15 hw
def wk_X1_takeAs_103 (b : Nat) (b2 : Nat) (K76 : Int32 → gw_H → Prop) (Q : Int32 → gw_H → Prop) : Int32 → Int32 → Int32 → gw_H → Prop :=
  fun x2 s0 s1 h => (wp_X5_put h (b + 16) 6 s1 s0 (fun _ h_11 => (wp_X1_hasSong h_11 b x2 (fun r_13 h_12 => ((r_13 = 0 → (wk_X1_takeAs_125 b b2 K76 Q x2 (-9 : Int32) x2 h_12)) ∧ (¬ r_13 = 0 → (wk_X1_takeAs_125 b b2 K76 Q x2 x2 x2 h_12)))))))
set_option maxRecDepth 100000 in
set_option maxHeartbeats 4000000 in
theorem tk_X1_takeAs_103 {l : Launch} {ad : Nat → Nat} {X : gw_X} {b : Nat} {b2 : Nat} {K76 : Int32 → gw_H → Prop} {Q : Int32 → gw_H → Prop} (hb : gw_b b) (hb2 : gw_b b2) (hK76 : ∀ (y2 : Int32) (h : gw_H), K76 y2 h → gw_G l vC ad cX1_takeAs RX1 3 none 2 81 Q X h 76 [some (.ref (ad (b + 9))), some (.ref (ad (b2 + 9))), some (.int y2)] []) (x2 : Int32) (s0 : Int32) (s1 : Int32) (h : gw_H) (hw : wk_X1_takeAs_103 b b2 K76 Q x2 s0 s1 h) : gw_G l vC ad cX1_takeAs RX1 3 none 2 81 Q X h 103 [some (.ref (ad (b + 9))), some (.ref (ad (b2 + 9))), some (.int x2)] [.int s0, .int s1, .ref (ad (b + 16))] := by
  unfold wk_X1_takeAs_103 at hw
  refine gw_callNv (As := [.ref (ad (b + 16)), .int s1, .int s0]) (rest := []) rfl (gc_X5_put (ar_16 hb) hw) mX5_put lmX1_44 rfl rfl ⟨Nat.le_of_ble_eq_true rfl, Nat.le_of_ble_eq_true rfl⟩ (Nat.le_of_ble_eq_true rfl) dX1_takeAs_103 (fun h_11 hw => ?_)
  refine gw_aload_n dX1_takeAs_106 rfl rfl ?_
  refine gw_getf (k := 7) (v := .ref (ad (b + 17))) (oX1 hb) clX1 inUX1 (Nat.le_of_ble_eq_true rfl) rfl lfX1_33 rfl dX1_takeAs_107 ?_
  refine gw_iload_n dX1_takeAs_110 rfl rfl ?_
  refine gw_aload_n dX1_takeAs_111 rfl rfl ?_
  refine gw_iload_n dX1_takeAs_112 rfl rfl ?_
  refine gw_callVi (As := [.int x2]) (rest := [.int x2, .ref (ad (b + 17))]) rfl (gc_X1_hasSong hb hw) mX1_hasSong lmX1_56 (oX1 hb) clX1 rfl rfl ⟨Nat.le_of_ble_eq_true rfl, Nat.le_of_ble_eq_true rfl⟩ (Nat.le_of_ble_eq_true rfl) dX1_takeAs_113 (fun r_13 h_12 hw => ?_)
  refine gw_if_eq (tgt := 123) dX1_takeAs_116 (by decide) (fun c_14 => ?_) (fun c_14 => ?_)
  · have hw := hw.1 c_14
    refine gw_bipush dX1_takeAs_123 bp_m9 ?_
    exact tk_X1_takeAs_125 hb hb2 hK76 x2 (-9 : Int32) x2 h_12 hw
  · have hw := hw.2 c_14
    refine gw_iload_n dX1_takeAs_119 rfl rfl ?_
    refine gw_goto (tgt := 125) dX1_takeAs_120 (by decide) ?_
    exact tk_X1_takeAs_125 hb hb2 hK76 x2 x2 x2 h_12 hw
def wl_X1_takeAs_76 (b : Nat) (b2 : Nat)  (Q : Int32 → gw_H → Prop) : Nat → Int32 → gw_H → Prop
  | 0 => fun _ _ => False
  | n + 1 => fun x2 h => (((h (b + 9) 8) ≤ x2 → Q 0 h) ∧ (¬ (h (b + 9) 8) ≤ x2 → (wp_X1_hasSong h b x2 (fun r_9 h_8 => ((r_9 = 0 → (wk_X1_takeAs_103 b b2 (wl_X1_takeAs_76 b b2  Q n) Q x2 (-9 : Int32) x2 h_8)) ∧ (¬ r_9 = 0 → (wk_X1_takeAs_103 b b2 (wl_X1_takeAs_76 b b2  Q n) Q x2 x2 x2 h_8)))))))
set_option maxRecDepth 100000 in
set_option maxHeartbeats 4000000 in
theorem tl_X1_takeAs_76 {l : Launch} {ad : Nat → Nat} {X : gw_X} {b : Nat} {b2 : Nat}  {Q : Int32 → gw_H → Prop} (hb : gw_b b) (hb2 : gw_b b2)  : ∀ (n : Nat) (x2 : Int32) (h : gw_H), wl_X1_takeAs_76 b b2  Q n x2 h → gw_G l vC ad cX1_takeAs RX1 3 none 2 81 Q X h 76 [some (.ref (ad (b + 9))), some (.ref (ad (b2 + 9))), some (.int x2)] [] := by
  intro n
  induction n with
  | zero => intro x2 h hw; exact hw.elim
  | succ n ih =>
    intro x2 h hw
    unfold wl_X1_takeAs_76 at hw
    refine gw_iload_n dX1_takeAs_76 rfl rfl ?_
    refine gw_aload_n dX1_takeAs_77 rfl rfl ?_
    refine gw_getf (k := 8) (v := .int (h (b + 9) 8)) (oX1 hb) clX1 inUX1 (Nat.le_of_ble_eq_true rfl) rfl lfX1_36 rfl dX1_takeAs_78 ?_
    refine gw_icmp_ge (tgt := 134) dX1_takeAs_81 (by decide) (fun c_7 => ?_) (fun c_7 => ?_)
    · have hw := hw.1 c_7
      exact gw_return hw rfl dX1_takeAs_134
    · have hw := hw.2 c_7
      refine gw_aload_n dX1_takeAs_84 rfl rfl ?_
      refine gw_getf (k := 6) (v := .ref (ad (b + 16))) (oX1 hb) clX1 inUX1 (Nat.le_of_ble_eq_true rfl) rfl lfX1_30 rfl dX1_takeAs_85 ?_
      refine gw_iload_n dX1_takeAs_88 rfl rfl ?_
      refine gw_aload_n dX1_takeAs_89 rfl rfl ?_
      refine gw_iload_n dX1_takeAs_90 rfl rfl ?_
      refine gw_callVi (As := [.int x2]) (rest := [.int x2, .ref (ad (b + 16))]) rfl (gc_X1_hasSong hb hw) mX1_hasSong lmX1_56 (oX1 hb) clX1 rfl rfl ⟨Nat.le_of_ble_eq_true rfl, Nat.le_of_ble_eq_true rfl⟩ (Nat.le_of_ble_eq_true rfl) dX1_takeAs_91 (fun r_9 h_8 hw => ?_)
      refine gw_if_eq (tgt := 101) dX1_takeAs_94 (by decide) (fun c_10 => ?_) (fun c_10 => ?_)
      · have hw := hw.1 c_10
        refine gw_bipush dX1_takeAs_101 bp_m9 ?_
        exact tk_X1_takeAs_103 hb hb2  ih x2 (-9 : Int32) x2 h_8 hw
      · have hw := hw.2 c_10
        refine gw_iload_n dX1_takeAs_97 rfl rfl ?_
        refine gw_goto (tgt := 103) dX1_takeAs_98 (by decide) ?_
        exact tk_X1_takeAs_103 hb hb2  ih x2 x2 x2 h_8 hw
def wp_X1_takeAs (h : gw_H) (b : Nat) (b2 : Nat) (Q : Int32 → gw_H → Prop) : Prop :=
  (wp_X5_copy h (b2 + 10) 6 (b + 10) 6 (fun _ h_1 => (wp_X5_copy h_1 (b2 + 11) 6 (b + 11) 6 (fun _ h_2 => (wp_X5_copy h_2 (b2 + 12) 6 (b + 12) 6 (fun _ h_3 => (wp_X5_copy h_3 (b2 + 13) 6 (b + 13) 6 (fun _ h_4 => (wp_X5_copy h_4 (b2 + 14) 6 (b + 14) 6 (fun _ h_5 => (wp_X5_copy h_5 (b2 + 15) 6 (b + 15) 6 (fun _ h_6 => (∃ n_16 : Nat, wl_X1_takeAs_76 b b2  Q n_16 (0 : Int32) (gw_up h_6 (b + 9) 8 (h_6 (b2 + 9) 8)))))))))))))))
set_option maxRecDepth 100000 in
set_option maxHeartbeats 4000000 in
theorem gc_X1_takeAs {l : Launch} {ad : Nat → Nat} {h : gw_H} {b : Nat} {b2 : Nat} {Q : Int32 → gw_H → Prop} (hb : gw_b b) (hb2 : gw_b b2) (hw : wp_X1_takeAs h b b2 Q) : gw_C l yX1_takeAs cX1_takeAs 3 none 2 81 vC ad [.ref (ad (b + 9)), .ref (ad (b2 + 9))] h Q := by
  refine gw_entry (own := RX1) [some (.ref (ad (b + 9))), some (.ref (ad (b2 + 9))), none] pl_X1 rfl rfl (Nat.le_of_ble_eq_true rfl) rfl (fun X => ?_)
  unfold wp_X1_takeAs at hw
  refine gw_aload_n dX1_takeAs_0 rfl rfl ?_
  refine gw_getf (k := 0) (v := .ref (ad (b2 + 10))) (oX1 hb2) clX1 inUX1 (Nat.le_of_ble_eq_true rfl) rfl lfX1_9 rfl dX1_takeAs_1 ?_
  refine gw_aload_n dX1_takeAs_4 rfl rfl ?_
  refine gw_getf (k := 0) (v := .ref (ad (b + 10))) (oX1 hb) clX1 inUX1 (Nat.le_of_ble_eq_true rfl) rfl lfX1_9 rfl dX1_takeAs_5 ?_
  refine gw_callNv (As := [.ref (ad (b2 + 10)), .ref (ad (b + 10))]) (rest := []) rfl (gc_X5_copy (ar_10 hb2) (ar_10 hb) hw) mX5_copy lmX1_72 rfl rfl ⟨Nat.le_of_ble_eq_true rfl, Nat.le_of_ble_eq_true rfl⟩ (Nat.le_of_ble_eq_true rfl) dX1_takeAs_8 (fun h_1 hw => ?_)
  refine gw_aload_n dX1_takeAs_11 rfl rfl ?_
  refine gw_getf (k := 1) (v := .ref (ad (b2 + 11))) (oX1 hb2) clX1 inUX1 (Nat.le_of_ble_eq_true rfl) rfl lfX1_15 rfl dX1_takeAs_12 ?_
  refine gw_aload_n dX1_takeAs_15 rfl rfl ?_
  refine gw_getf (k := 1) (v := .ref (ad (b + 11))) (oX1 hb) clX1 inUX1 (Nat.le_of_ble_eq_true rfl) rfl lfX1_15 rfl dX1_takeAs_16 ?_
  refine gw_callNv (As := [.ref (ad (b2 + 11)), .ref (ad (b + 11))]) (rest := []) rfl (gc_X5_copy (ar_11 hb2) (ar_11 hb) hw) mX5_copy lmX1_72 rfl rfl ⟨Nat.le_of_ble_eq_true rfl, Nat.le_of_ble_eq_true rfl⟩ (Nat.le_of_ble_eq_true rfl) dX1_takeAs_19 (fun h_2 hw => ?_)
  refine gw_aload_n dX1_takeAs_22 rfl rfl ?_
  refine gw_getf (k := 2) (v := .ref (ad (b2 + 12))) (oX1 hb2) clX1 inUX1 (Nat.le_of_ble_eq_true rfl) rfl lfX1_18 rfl dX1_takeAs_23 ?_
  refine gw_aload_n dX1_takeAs_26 rfl rfl ?_
  refine gw_getf (k := 2) (v := .ref (ad (b + 12))) (oX1 hb) clX1 inUX1 (Nat.le_of_ble_eq_true rfl) rfl lfX1_18 rfl dX1_takeAs_27 ?_
  refine gw_callNv (As := [.ref (ad (b2 + 12)), .ref (ad (b + 12))]) (rest := []) rfl (gc_X5_copy (ar_12 hb2) (ar_12 hb) hw) mX5_copy lmX1_72 rfl rfl ⟨Nat.le_of_ble_eq_true rfl, Nat.le_of_ble_eq_true rfl⟩ (Nat.le_of_ble_eq_true rfl) dX1_takeAs_30 (fun h_3 hw => ?_)
  refine gw_aload_n dX1_takeAs_33 rfl rfl ?_
  refine gw_getf (k := 3) (v := .ref (ad (b2 + 13))) (oX1 hb2) clX1 inUX1 (Nat.le_of_ble_eq_true rfl) rfl lfX1_21 rfl dX1_takeAs_34 ?_
  refine gw_aload_n dX1_takeAs_37 rfl rfl ?_
  refine gw_getf (k := 3) (v := .ref (ad (b + 13))) (oX1 hb) clX1 inUX1 (Nat.le_of_ble_eq_true rfl) rfl lfX1_21 rfl dX1_takeAs_38 ?_
  refine gw_callNv (As := [.ref (ad (b2 + 13)), .ref (ad (b + 13))]) (rest := []) rfl (gc_X5_copy (ar_13 hb2) (ar_13 hb) hw) mX5_copy lmX1_72 rfl rfl ⟨Nat.le_of_ble_eq_true rfl, Nat.le_of_ble_eq_true rfl⟩ (Nat.le_of_ble_eq_true rfl) dX1_takeAs_41 (fun h_4 hw => ?_)
  refine gw_aload_n dX1_takeAs_44 rfl rfl ?_
  refine gw_getf (k := 4) (v := .ref (ad (b2 + 14))) (oX1 hb2) clX1 inUX1 (Nat.le_of_ble_eq_true rfl) rfl lfX1_24 rfl dX1_takeAs_45 ?_
  refine gw_aload_n dX1_takeAs_48 rfl rfl ?_
  refine gw_getf (k := 4) (v := .ref (ad (b + 14))) (oX1 hb) clX1 inUX1 (Nat.le_of_ble_eq_true rfl) rfl lfX1_24 rfl dX1_takeAs_49 ?_
  refine gw_callNv (As := [.ref (ad (b2 + 14)), .ref (ad (b + 14))]) (rest := []) rfl (gc_X5_copy (ar_14 hb2) (ar_14 hb) hw) mX5_copy lmX1_72 rfl rfl ⟨Nat.le_of_ble_eq_true rfl, Nat.le_of_ble_eq_true rfl⟩ (Nat.le_of_ble_eq_true rfl) dX1_takeAs_52 (fun h_5 hw => ?_)
  refine gw_aload_n dX1_takeAs_55 rfl rfl ?_
  refine gw_getf (k := 5) (v := .ref (ad (b2 + 15))) (oX1 hb2) clX1 inUX1 (Nat.le_of_ble_eq_true rfl) rfl lfX1_27 rfl dX1_takeAs_56 ?_
  refine gw_aload_n dX1_takeAs_59 rfl rfl ?_
  refine gw_getf (k := 5) (v := .ref (ad (b + 15))) (oX1 hb) clX1 inUX1 (Nat.le_of_ble_eq_true rfl) rfl lfX1_27 rfl dX1_takeAs_60 ?_
  refine gw_callNv (As := [.ref (ad (b2 + 15)), .ref (ad (b + 15))]) (rest := []) rfl (gc_X5_copy (ar_15 hb2) (ar_15 hb) hw) mX5_copy lmX1_72 rfl rfl ⟨Nat.le_of_ble_eq_true rfl, Nat.le_of_ble_eq_true rfl⟩ (Nat.le_of_ble_eq_true rfl) dX1_takeAs_63 (fun h_6 hw => ?_)
  refine gw_aload_n dX1_takeAs_66 rfl rfl ?_
  refine gw_aload_n dX1_takeAs_67 rfl rfl ?_
  refine gw_getf (k := 8) (v := .int (h_6 (b2 + 9) 8)) (oX1 hb2) clX1 inUX1 (Nat.le_of_ble_eq_true rfl) rfl lfX1_36 rfl dX1_takeAs_68 ?_
  refine gw_putf (k := 8) (ty := .int) (oX1 hb) clX1 inUX1 tyX1_ok nmX1 (Nat.le_of_ble_eq_true rfl) rfl lfX1_36 (by decide +kernel) rfl rfl st_X1_8 dX1_takeAs_71 ?_
  refine gw_iconst dX1_takeAs_74 ic_0 ?_
  refine gw_istore_n (ls' := [some (.ref (ad (b + 9))), some (.ref (ad (b2 + 9))), some (.int (0 : Int32))]) dX1_takeAs_75 rfl (Nat.le_of_ble_eq_true rfl) rfl ?_
  obtain ⟨n_16, hw⟩ := hw
  exact tl_X1_takeAs_76 hb hb2  n_16 (0 : Int32) (gw_up h_6 (b + 9) 8 (h_6 (b2 + 9) 8)) hw
def wp_X1_weaken (h : gw_H) (b : Nat) (p1 : Int32) (p2 : Int32) (Q : Int32 → gw_H → Prop) : Prop :=
  (wp_X5_at h (b + 14) 6 p1 (fun r_2 h_1 => (((if (r_2 - p2) < (60 : Int32) then (r_2 - p2) else (60 : Int32)) ≤ 0 → (wp_X1_lose h_1 b p1 (fun _ h_4 => Q 0 h_4))) ∧ (¬ (if (r_2 - p2) < (60 : Int32) then (r_2 - p2) else (60 : Int32)) ≤ 0 → (wp_X5_put h_1 (b + 14) 6 p1 (if (r_2 - p2) < (60 : Int32) then (r_2 - p2) else (60 : Int32)) (fun _ h_5 => Q 0 h_5))))))
set_option maxRecDepth 100000 in
set_option maxHeartbeats 4000000 in
theorem gc_X1_weaken {l : Launch} {ad : Nat → Nat} {h : gw_H} {b : Nat} {p1 : Int32} {p2 : Int32} {Q : Int32 → gw_H → Prop} (hb : gw_b b) (hw : wp_X1_weaken h b p1 p2 Q) : gw_C l yX1_weaken cX1_weaken 4 none 2 43 vC ad [.ref (ad (b + 9)), .int p1, .int p2] h Q := by
  refine gw_entry (own := RX1) [some (.ref (ad (b + 9))), some (.int p1), some (.int p2), none] pl_X1 rfl rfl (Nat.le_of_ble_eq_true rfl) rfl (fun X => ?_)
  unfold wp_X1_weaken at hw
  refine gw_bipush dX1_weaken_0 bp_60 ?_
  refine gw_aload_n dX1_weaken_2 rfl rfl ?_
  refine gw_getf (k := 4) (v := .ref (ad (b + 14))) (oX1 hb) clX1 inUX1 (Nat.le_of_ble_eq_true rfl) rfl lfX1_24 rfl dX1_weaken_3 ?_
  refine gw_iload_n dX1_weaken_6 rfl rfl ?_
  refine gw_callNi (As := [.ref (ad (b + 14)), .int p1]) (rest := [.int (60 : Int32)]) rfl (gc_X5_at (ar_14 hb) hw) mX5_at lmX1_52 rfl rfl ⟨Nat.le_of_ble_eq_true rfl, Nat.le_of_ble_eq_true rfl⟩ (Nat.le_of_ble_eq_true rfl) dX1_weaken_7 (fun r_2 h_1 hw => ?_)
  refine gw_iload_n dX1_weaken_10 rfl rfl ?_
  refine gw_isub dX1_weaken_11 ?_
  refine gw_mmin lmX1_59 ⟨Nat.le_of_ble_eq_true rfl, Nat.le_of_ble_eq_true rfl⟩ (Nat.le_of_ble_eq_true rfl) dX1_weaken_12 ?_
  refine gw_istore_n (ls' := [some (.ref (ad (b + 9))), some (.int p1), some (.int p2), some (.int (if (r_2 - p2) < (60 : Int32) then (r_2 - p2) else (60 : Int32)))]) dX1_weaken_15 rfl (Nat.le_of_ble_eq_true rfl) rfl ?_
  refine gw_iload_n dX1_weaken_16 rfl rfl ?_
  refine gw_if_le (tgt := 32) dX1_weaken_17 (by decide) (fun c_3 => ?_) (fun c_3 => ?_)
  · have hw := hw.1 c_3
    refine gw_aload_n dX1_weaken_32 rfl rfl ?_
    refine gw_iload_n dX1_weaken_33 rfl rfl ?_
    refine gw_callVv (As := [.int p1]) (rest := []) rfl (gc_X1_lose hb hw) mX1_lose lmX1_48 (oX1 hb) clX1 rfl rfl ⟨Nat.le_of_ble_eq_true rfl, Nat.le_of_ble_eq_true rfl⟩ (Nat.le_of_ble_eq_true rfl) dX1_weaken_34 (fun h_4 hw => ?_)
    exact gw_return hw rfl dX1_weaken_37
  · have hw := hw.2 c_3
    refine gw_aload_n dX1_weaken_20 rfl rfl ?_
    refine gw_getf (k := 4) (v := .ref (ad (b + 14))) (oX1 hb) clX1 inUX1 (Nat.le_of_ble_eq_true rfl) rfl lfX1_24 rfl dX1_weaken_21 ?_
    refine gw_iload_n dX1_weaken_24 rfl rfl ?_
    refine gw_iload_n dX1_weaken_25 rfl rfl ?_
    refine gw_callNv (As := [.ref (ad (b + 14)), .int p1, .int (if (r_2 - p2) < (60 : Int32) then (r_2 - p2) else (60 : Int32))]) (rest := []) rfl (gc_X5_put (ar_14 hb) hw) mX5_put lmX1_44 rfl rfl ⟨Nat.le_of_ble_eq_true rfl, Nat.le_of_ble_eq_true rfl⟩ (Nat.le_of_ble_eq_true rfl) dX1_weaken_26 (fun h_5 hw => ?_)
    refine gw_goto (tgt := 37) dX1_weaken_29 (by decide) ?_
    exact gw_return hw rfl dX1_weaken_37
def wp_X1_treat (h : gw_H) (b : Nat) (p1 : Int32) (p2 : Int32) (Q : Int32 → gw_H → Prop) : Prop :=
  ((p2 = (0 : Int32) → (wp_X5_at h (b + 14) 6 p1 (fun r_3 h_2 => (wp_X5_at h_2 (b + 14) 6 p1 (fun r_5 h_4 => (wp_X1_weaken h_4 b p1 (r_3 - (r_5 / (2 : Int32))) (fun _ h_6 => Q 0 h_6))))))) ∧ (¬ p2 = (0 : Int32) → ((p2 = (1 : Int32) → (wp_X1_weaken h b p1 (4 : Int32) (fun _ h_8 => Q 0 h_8))) ∧ (¬ p2 = (1 : Int32) → ((p2 = (2 : Int32) → (wp_X5_put h (b + 15) 6 p1 (3 : Int32) (fun _ h_10 => Q 0 h_10))) ∧ (¬ p2 = (2 : Int32) → Q 0 h))))))
set_option maxRecDepth 100000 in
set_option maxHeartbeats 4000000 in
theorem gc_X1_treat {l : Launch} {ad : Nat → Nat} {h : gw_H} {b : Nat} {p1 : Int32} {p2 : Int32} {Q : Int32 → gw_H → Prop} (hb : gw_b b) (hw : wp_X1_treat h b p1 p2 Q) : gw_C l yX1_treat cX1_treat 3 none 3 66 vC ad [.ref (ad (b + 9)), .int p1, .int p2] h Q := by
  refine gw_entry (own := RX1) [some (.ref (ad (b + 9))), some (.int p1), some (.int p2)] pl_X1 rfl rfl (Nat.le_of_ble_eq_true rfl) rfl (fun X => ?_)
  unfold wp_X1_treat at hw
  refine gw_iload_n dX1_treat_0 rfl rfl ?_
  by_cases c_1 : p2 = (0 : Int32)
  · have hw := hw.1 c_1
    refine gw_tin (k := (0 : Int32)) (off := 27) (tgt := 28) dX1_treat_1 c_1 (by decide) (by decide) (by decide) (by decide) ?_
    refine gw_aload_n dX1_treat_28 rfl rfl ?_
    refine gw_iload_n dX1_treat_29 rfl rfl ?_
    refine gw_aload_n dX1_treat_30 rfl rfl ?_
    refine gw_getf (k := 4) (v := .ref (ad (b + 14))) (oX1 hb) clX1 inUX1 (Nat.le_of_ble_eq_true rfl) rfl lfX1_24 rfl dX1_treat_31 ?_
    refine gw_iload_n dX1_treat_34 rfl rfl ?_
    refine gw_callNi (As := [.ref (ad (b + 14)), .int p1]) (rest := [.int p1, .ref (ad (b + 9))]) rfl (gc_X5_at (ar_14 hb) hw) mX5_at lmX1_52 rfl rfl ⟨Nat.le_of_ble_eq_true rfl, Nat.le_of_ble_eq_true rfl⟩ (Nat.le_of_ble_eq_true rfl) dX1_treat_35 (fun r_3 h_2 hw => ?_)
    refine gw_aload_n dX1_treat_38 rfl rfl ?_
    refine gw_getf (k := 4) (v := .ref (ad (b + 14))) (oX1 hb) clX1 inUX1 (Nat.le_of_ble_eq_true rfl) rfl lfX1_24 rfl dX1_treat_39 ?_
    refine gw_iload_n dX1_treat_42 rfl rfl ?_
    refine gw_callNi (As := [.ref (ad (b + 14)), .int p1]) (rest := [.int r_3, .int p1, .ref (ad (b + 9))]) rfl (gc_X5_at (ar_14 hb) hw) mX5_at lmX1_52 rfl rfl ⟨Nat.le_of_ble_eq_true rfl, Nat.le_of_ble_eq_true rfl⟩ (Nat.le_of_ble_eq_true rfl) dX1_treat_43 (fun r_5 h_4 hw => ?_)
    refine gw_iconst dX1_treat_46 ic_2 ?_
    refine gw_idiv dX1_treat_47 (by decide) ?_
    refine gw_isub dX1_treat_48 ?_
    refine gw_callVv (As := [.int p1, .int (r_3 - (r_5 / (2 : Int32)))]) (rest := []) rfl (gc_X1_weaken hb hw) mX1_weaken lmX1_68 (oX1 hb) clX1 rfl rfl ⟨Nat.le_of_ble_eq_true rfl, Nat.le_of_ble_eq_true rfl⟩ (Nat.le_of_ble_eq_true rfl) dX1_treat_49 (fun h_6 hw => ?_)
    refine gw_goto (tgt := 76) dX1_treat_52 (by decide) ?_
    exact gw_return hw rfl dX1_treat_76
  · have hw := hw.2 c_1
    by_cases c_7 : p2 = (1 : Int32)
    · have hw := hw.1 c_7
      refine gw_tin (k := (1 : Int32)) (off := 54) (tgt := 55) dX1_treat_1 c_7 (by decide) (by decide) (by decide) (by decide) ?_
      refine gw_aload_n dX1_treat_55 rfl rfl ?_
      refine gw_iload_n dX1_treat_56 rfl rfl ?_
      refine gw_iconst dX1_treat_57 ic_4 ?_
      refine gw_callVv (As := [.int p1, .int (4 : Int32)]) (rest := []) rfl (gc_X1_weaken hb hw) mX1_weaken lmX1_68 (oX1 hb) clX1 rfl rfl ⟨Nat.le_of_ble_eq_true rfl, Nat.le_of_ble_eq_true rfl⟩ (Nat.le_of_ble_eq_true rfl) dX1_treat_58 (fun h_8 hw => ?_)
      refine gw_goto (tgt := 76) dX1_treat_61 (by decide) ?_
      exact gw_return hw rfl dX1_treat_76
    · have hw := hw.2 c_7
      by_cases c_9 : p2 = (2 : Int32)
      · have hw := hw.1 c_9
        refine gw_tin (k := (2 : Int32)) (off := 63) (tgt := 64) dX1_treat_1 c_9 (by decide) (by decide) (by decide) (by decide) ?_
        refine gw_aload_n dX1_treat_64 rfl rfl ?_
        refine gw_getf (k := 5) (v := .ref (ad (b + 15))) (oX1 hb) clX1 inUX1 (Nat.le_of_ble_eq_true rfl) rfl lfX1_27 rfl dX1_treat_65 ?_
        refine gw_iload_n dX1_treat_68 rfl rfl ?_
        refine gw_iconst dX1_treat_69 ic_3 ?_
        refine gw_callNv (As := [.ref (ad (b + 15)), .int p1, .int (3 : Int32)]) (rest := []) rfl (gc_X5_put (ar_15 hb) hw) mX5_put lmX1_44 rfl rfl ⟨Nat.le_of_ble_eq_true rfl, Nat.le_of_ble_eq_true rfl⟩ (Nat.le_of_ble_eq_true rfl) dX1_treat_70 (fun h_10 hw => ?_)
        refine gw_goto (tgt := 76) dX1_treat_73 (by decide) ?_
        exact gw_return hw rfl dX1_treat_76
      · have hw := hw.2 c_9
        refine gw_tout (tgt := 76) dX1_treat_1 (by have q0 := lv_neT c_1 (a := 0) (by decide); have q1 := lv_neT c_7 (a := 1) (by decide); have q2 := lv_neT c_9 (a := 2) (by decide); omega) (by decide) ?_
        exact gw_return hw rfl dX1_treat_76
