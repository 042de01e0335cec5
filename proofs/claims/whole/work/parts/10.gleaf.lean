def wp_J0_coder_7d493 (h : gw_H) (i : Nat) (Q : Int32 → gw_H → Prop) : Prop :=
  (((1 : Int32) = 0 → Q (1 : Int32) h) ∧ (¬ (1 : Int32) = 0 → Q (0 : Int32) h))
set_option maxRecDepth 100000 in
set_option maxHeartbeats 4000000 in
theorem gc_J0_coder_7d493 {l : Launch} {ad : Nat → Nat} {h : gw_H} {i : Nat} {Q : Int32 → gw_H → Prop} (hi : i < 2) (hw : wp_J0_coder_7d493 h i Q) : gw_C l yJ0_coder_7d493 cJ0_coder_7d493 1 (some .byte) 0 0 vC ad [.ref (ad (1000 + i))] h Q := by
  refine gw_entry (own := RJ0) [some (.ref (ad (1000 + i)))] pl_J0 rfl rfl (Nat.le_of_ble_eq_true rfl) rfl (fun X => ?_)
  unfold wp_J0_coder_7d493 at hw
  refine gw_gets lfJ0_38 dJ0_coder_7d493_0 ?_
  refine gw_if_eq (tgt := 13) dJ0_coder_7d493_3 (by decide) (fun c_1 => ?_) (fun c_1 => ?_)
  · have hw := hw.1 c_1
    refine gw_iconst dJ0_coder_7d493_13 ic_1 ?_
    exact gw_ireturn (ty := .byte) hw rfl rfl dJ0_coder_7d493_14
  · have hw := hw.2 c_1
    refine gw_aload_n dJ0_coder_7d493_6 rfl rfl ?_
    refine gw_scod (i := i) hi lfJ0_15 dJ0_coder_7d493_7 ?_
    refine gw_goto (tgt := 14) dJ0_coder_7d493_10 (by decide) ?_
    exact gw_ireturn (ty := .byte) hw rfl rfl dJ0_coder_7d493_14
def wp_J0_isLatin1_aae02 (h : gw_H) (i : Nat) (Q : Int32 → gw_H → Prop) : Prop :=
  (((1 : Int32) = 0 → Q (0 : Int32) h) ∧ (¬ (1 : Int32) = 0 → ((¬ (0 : Int32) = 0 → Q (0 : Int32) h) ∧ ((0 : Int32) = 0 → Q (1 : Int32) h))))
set_option maxRecDepth 100000 in
set_option maxHeartbeats 4000000 in
theorem gc_J0_isLatin1_aae02 {l : Launch} {ad : Nat → Nat} {h : gw_H} {i : Nat} {Q : Int32 → gw_H → Prop} (hi : i < 2) (hw : wp_J0_isLatin1_aae02 h i Q) : gw_C l yJ0_isLatin1_aae02 cJ0_isLatin1_aae02 1 (some .boolean) 0 0 vC ad [.ref (ad (1000 + i))] h Q := by
  refine gw_entry (own := RJ0) [some (.ref (ad (1000 + i)))] pl_J0 rfl rfl (Nat.le_of_ble_eq_true rfl) rfl (fun X => ?_)
  unfold wp_J0_isLatin1_aae02 at hw
  refine gw_gets lfJ0_38 dJ0_isLatin1_aae02_0 ?_
  refine gw_if_eq (tgt := 17) dJ0_isLatin1_aae02_3 (by decide) (fun c_1 => ?_) (fun c_1 => ?_)
  · have hw := hw.1 c_1
    refine gw_iconst dJ0_isLatin1_aae02_17 ic_0 ?_
    exact gw_ireturn (ty := .boolean) hw rfl rfl dJ0_isLatin1_aae02_18
  · have hw := hw.2 c_1
    refine gw_aload_n dJ0_isLatin1_aae02_6 rfl rfl ?_
    refine gw_scod (i := i) hi lfJ0_15 dJ0_isLatin1_aae02_7 ?_
    refine gw_if_ne (tgt := 17) dJ0_isLatin1_aae02_10 (by decide) (fun c_2 => ?_) (fun c_2 => ?_)
    · have hw := hw.1 c_2
      refine gw_iconst dJ0_isLatin1_aae02_17 ic_0 ?_
      exact gw_ireturn (ty := .boolean) hw rfl rfl dJ0_isLatin1_aae02_18
    · have hw := hw.2 c_2
      refine gw_iconst dJ0_isLatin1_aae02_13 ic_1 ?_
      refine gw_goto (tgt := 18) dJ0_isLatin1_aae02_14 (by decide) ?_
      exact gw_ireturn (ty := .boolean) hw rfl rfl dJ0_isLatin1_aae02_18
def wp_J0_length_8abf5 (h : gw_H) (i : Nat) (Q : Int32 → gw_H → Prop) : Prop :=
  (wp_J0_coder_7d493 h i (fun r_2 h_1 => Q ((Int32.ofNat (gw_len2.getD i 0)) >>> (r_2 &&& 31)) h_1))
set_option maxRecDepth 100000 in
set_option maxHeartbeats 4000000 in
theorem gc_J0_length_8abf5 {l : Launch} {ad : Nat → Nat} {h : gw_H} {i : Nat} {Q : Int32 → gw_H → Prop} (hi : i < 2) (hw : wp_J0_length_8abf5 h i Q) : gw_C l yJ0_length_8abf5 cJ0_length_8abf5 1 (some .int) 1 20 vC ad [.ref (ad (1000 + i))] h Q := by
  refine gw_entry (own := RJ0) [some (.ref (ad (1000 + i)))] pl_J0 rfl rfl (Nat.le_of_ble_eq_true rfl) rfl (fun X => ?_)
  unfold wp_J0_length_8abf5 at hw
  refine gw_aload_n dJ0_length_8abf5_0 rfl rfl ?_
  refine gw_sval (i := i) hi lfJ0_9 dJ0_length_8abf5_1 ?_
  refine gw_slen (i := i) hi dJ0_length_8abf5_4 ?_
  refine gw_aload_n dJ0_length_8abf5_5 rfl rfl ?_
  refine gw_callTi (i := i) (As := []) (rest := [.int (Int32.ofNat (gw_len2.getD i 0))]) rfl (gc_J0_coder_7d493 hi hw) mJ0_coder_7d493 lmJ0_335 hi rfl rfl rfl ⟨Nat.le_of_ble_eq_true rfl, Nat.le_of_ble_eq_true rfl⟩ (Nat.le_of_ble_eq_true rfl) dJ0_length_8abf5_6 (fun r_2 h_1 hw => ?_)
  refine gw_ishr dJ0_length_8abf5_9 ?_
  exact gw_ireturn (ty := .int) hw rfl rfl dJ0_length_8abf5_10
def wp_J1_canEncode_9a6ad (h : gw_H) (p1 : Int32) (Q : Int32 → gw_H → Prop) : Prop :=
  ((p1 < 0 → Q (0 : Int32) h) ∧ (¬ p1 < 0 → (((255 : Int32) < p1 → Q (0 : Int32) h) ∧ (¬ (255 : Int32) < p1 → Q (1 : Int32) h))))
set_option maxRecDepth 100000 in
set_option maxHeartbeats 4000000 in
theorem gc_J1_canEncode_9a6ad {l : Launch} {ad : Nat → Nat} {h : gw_H} {p1 : Int32} {Q : Int32 → gw_H → Prop}  (hw : wp_J1_canEncode_9a6ad h p1 Q) : gw_C l yJ1_canEncode_9a6ad cJ1_canEncode_9a6ad 1 (some .boolean) 0 0 vC ad [.int p1] h Q := by
  refine gw_entry (own := RJ1) [some (.int p1)] pl_J1 rfl rfl (Nat.le_of_ble_eq_true rfl) rfl (fun X => ?_)
  unfold wp_J1_canEncode_9a6ad at hw
  refine gw_iload_n dJ1_canEncode_9a6ad_0 rfl rfl ?_
  refine gw_if_lt (tgt := 15) dJ1_canEncode_9a6ad_1 (by decide) (fun c_1 => ?_) (fun c_1 => ?_)
  · have hw := hw.1 c_1
    refine gw_iconst dJ1_canEncode_9a6ad_15 ic_0 ?_
    exact gw_ireturn (ty := .boolean) hw rfl rfl dJ1_canEncode_9a6ad_16
  · have hw := hw.2 c_1
    refine gw_iload_n dJ1_canEncode_9a6ad_4 rfl rfl ?_
    refine gw_sipush dJ1_canEncode_9a6ad_5 sp_255 ?_
    refine gw_icmp_gt (tgt := 15) dJ1_canEncode_9a6ad_8 (by decide) (fun c_2 => ?_) (fun c_2 => ?_)
    · have hw := hw.1 c_2
      refine gw_iconst dJ1_canEncode_9a6ad_15 ic_0 ?_
      exact gw_ireturn (ty := .boolean) hw rfl rfl dJ1_canEncode_9a6ad_16
    · have hw := hw.2 c_2
      refine gw_iconst dJ1_canEncode_9a6ad_11 ic_1 ?_
      refine gw_goto (tgt := 16) dJ1_canEncode_9a6ad_12 (by decide) ?_
      exact gw_ireturn (ty := .boolean) hw rfl rfl dJ1_canEncode_9a6ad_16
def wl_J1_indexOfChar_4cfef_7 (i : Nat) (p2 : Int32) (p3 : Int32) (p4 : Int32)  (Q : Int32 → gw_H → Prop) : Nat → Int32 → Int32 → gw_H → Prop
  | 0 => fun _ _ _ => False
  | n + 1 => fun x4 x5 h => ((p4 ≤ x5 → Q (-1 : Int32) h) ∧ (¬ p4 ≤ x5 → (vp_in x5 (gw_len2.getD i 0) ∧ ((¬ ((gw_byt2.getD i []).getD x5.toNatClampNeg 0) = x4 → ((wl_J1_indexOfChar_4cfef_7 i p2 p3 p4  Q n) x4 (x5 + (1 : Int32)) h)) ∧ (((gw_byt2.getD i []).getD x5.toNatClampNeg 0) = x4 → Q x5 h)))))
set_option maxRecDepth 100000 in
set_option maxHeartbeats 4000000 in
theorem tl_J1_indexOfChar_4cfef_7 {l : Launch} {ad : Nat → Nat} {X : gw_X} {i : Nat} {p2 : Int32} {p3 : Int32} {p4 : Int32}  {Q : Int32 → gw_H → Prop} (hi : i < 2)  : ∀ (n : Nat) (x4 : Int32) (x5 : Int32) (h : gw_H), wl_J1_indexOfChar_4cfef_7 i p2 p3 p4  Q n x4 x5 h → gw_G l vC ad cJ1_indexOfChar_4cfef RJ1 6 (some .int) 0 0 Q X h 7 [some (.ref (ad (1010 + i))), some (.int p2), some (.int p3), some (.int p4), some (.int x4), some (.int x5)] [] := by
  intro n
  induction n with
  | zero => intro x4 x5 h hw; exact hw.elim
  | succ n ih =>
    intro x4 x5 h hw
    unfold wl_J1_indexOfChar_4cfef_7 at hw
    refine gw_iload dJ1_indexOfChar_4cfef_7 rfl ?_
    refine gw_iload_n dJ1_indexOfChar_4cfef_9 rfl rfl ?_
    refine gw_icmp_ge (tgt := 31) dJ1_indexOfChar_4cfef_10 (by decide) (fun c_1 => ?_) (fun c_1 => ?_)
    · have hw := hw.1 c_1
      refine gw_iconst dJ1_indexOfChar_4cfef_31 ic_m1 ?_
      exact gw_ireturn (ty := .int) hw rfl rfl dJ1_indexOfChar_4cfef_32
    · have hw := hw.2 c_1
      refine gw_aload_n dJ1_indexOfChar_4cfef_13 rfl rfl ?_
      refine gw_iload dJ1_indexOfChar_4cfef_14 rfl ?_
      have q_3 := hw.1
      have hw := hw.2
      refine gw_sbald (i := i) hi q_3 dJ1_indexOfChar_4cfef_16 ?_
      refine gw_iload dJ1_indexOfChar_4cfef_17 rfl ?_
      refine gw_icmp_ne (tgt := 25) dJ1_indexOfChar_4cfef_19 (by decide) (fun c_2 => ?_) (fun c_2 => ?_)
      · have hw := hw.1 c_2
        refine gw_iinc (ls' := [some (.ref (ad (1010 + i))), some (.int p2), some (.int p3), some (.int p4), some (.int x4), some (.int (x5 + (1 : Int32)))]) dJ1_indexOfChar_4cfef_25 rfl (congrArg (fun z => x5 + z) ic_1) (Nat.le_of_ble_eq_true rfl) rfl ?_
        refine gw_goto (tgt := 7) dJ1_indexOfChar_4cfef_28 (by decide) ?_
        exact ih x4 (x5 + (1 : Int32)) h hw
      · have hw := hw.2 c_2
        refine gw_iload dJ1_indexOfChar_4cfef_22 rfl ?_
        exact gw_ireturn (ty := .int) hw rfl rfl dJ1_indexOfChar_4cfef_24
def wp_J1_indexOfChar_4cfef (h : gw_H) (i : Nat) (p2 : Int32) (p3 : Int32) (p4 : Int32) (Q : Int32 → gw_H → Prop) : Prop :=
  (∃ n_4 : Nat, wl_J1_indexOfChar_4cfef_7 i p2 p3 p4  Q n_4 (p2.toInt8.toInt32) p3 h)
set_option maxRecDepth 100000 in
set_option maxHeartbeats 4000000 in
theorem gc_J1_indexOfChar_4cfef {l : Launch} {ad : Nat → Nat} {h : gw_H} {i : Nat} {p2 : Int32} {p3 : Int32} {p4 : Int32} {Q : Int32 → gw_H → Prop} (hi : i < 2) (hw : wp_J1_indexOfChar_4cfef h i p2 p3 p4 Q) : gw_C l yJ1_indexOfChar_4cfef cJ1_indexOfChar_4cfef 6 (some .int) 0 0 vC ad [.ref (ad (1010 + i)), .int p2, .int p3, .int p4] h Q := by
  refine gw_entry (own := RJ1) [some (.ref (ad (1010 + i))), some (.int p2), some (.int p3), some (.int p4), none, none] pl_J1 rfl rfl (Nat.le_of_ble_eq_true rfl) rfl (fun X => ?_)
  unfold wp_J1_indexOfChar_4cfef at hw
  refine gw_iload_n dJ1_indexOfChar_4cfef_0 rfl rfl ?_
  refine gw_i2b dJ1_indexOfChar_4cfef_1 rfl ?_
  refine gw_istore (ls' := [some (.ref (ad (1010 + i))), some (.int p2), some (.int p3), some (.int p4), some (.int p2.toInt8.toInt32), none]) dJ1_indexOfChar_4cfef_2 (Nat.le_of_ble_eq_true rfl) rfl ?_
  refine gw_iload_n dJ1_indexOfChar_4cfef_4 rfl rfl ?_
  refine gw_istore (ls' := [some (.ref (ad (1010 + i))), some (.int p2), some (.int p3), some (.int p4), some (.int p2.toInt8.toInt32), some (.int p3)]) dJ1_indexOfChar_4cfef_5 (Nat.le_of_ble_eq_true rfl) rfl ?_
  obtain ⟨n_4, hw⟩ := hw
  exact tl_J1_indexOfChar_4cfef_7 hi  n_4 (p2.toInt8.toInt32) p3 h hw
def wp_J1_indexOf_4cfef (h : gw_H) (i : Nat) (p2 : Int32) (p3 : Int32) (p4 : Int32) (Q : Int32 → gw_H → Prop) : Prop :=
  (wp_J1_canEncode_9a6ad h p2 (fun r_2 h_1 => ((¬ r_2 = 0 → (((if p3 < (0 : Int32) then (0 : Int32) else p3) < (if (Int32.ofNat (gw_len2.getD i 0)) < p4 then (Int32.ofNat (gw_len2.getD i 0)) else p4) → (wp_J1_indexOfChar_4cfef h_1 i p2 (if p3 < (0 : Int32) then (0 : Int32) else p3) (if (Int32.ofNat (gw_len2.getD i 0)) < p4 then (Int32.ofNat (gw_len2.getD i 0)) else p4) (fun r_6 h_5 => Q r_6 h_5))) ∧ (¬ (if p3 < (0 : Int32) then (0 : Int32) else p3) < (if (Int32.ofNat (gw_len2.getD i 0)) < p4 then (Int32.ofNat (gw_len2.getD i 0)) else p4) → Q (-1 : Int32) h_1))) ∧ (r_2 = 0 → Q (-1 : Int32) h_1))))
set_option maxRecDepth 100000 in
set_option maxHeartbeats 4000000 in
theorem gc_J1_indexOf_4cfef {l : Launch} {ad : Nat → Nat} {h : gw_H} {i : Nat} {p2 : Int32} {p3 : Int32} {p4 : Int32} {Q : Int32 → gw_H → Prop} (hi : i < 2) (hw : wp_J1_indexOf_4cfef h i p2 p3 p4 Q) : gw_C l yJ1_indexOf_4cfef cJ1_indexOf_4cfef 4 (some .int) 1 25 vC ad [.ref (ad (1010 + i)), .int p2, .int p3, .int p4] h Q := by
  refine gw_entry (own := RJ1) [some (.ref (ad (1010 + i))), some (.int p2), some (.int p3), some (.int p4)] pl_J1 rfl rfl (Nat.le_of_ble_eq_true rfl) rfl (fun X => ?_)
  unfold wp_J1_indexOf_4cfef at hw
  refine gw_iload_n dJ1_indexOf_4cfef_0 rfl rfl ?_
  refine gw_callSi (As := [.int p2]) (rest := []) rfl (gc_J1_canEncode_9a6ad  hw) mJ1_canEncode_9a6ad lmJ1_88 rfl rfl ⟨Nat.le_of_ble_eq_true rfl, Nat.le_of_ble_eq_true rfl⟩ (Nat.le_of_ble_eq_true rfl) dJ1_indexOf_4cfef_1 (fun r_2 h_1 hw => ?_)
  refine gw_if_ne (tgt := 9) dJ1_indexOf_4cfef_4 (by decide) (fun c_3 => ?_) (fun c_3 => ?_)
  · have hw := hw.1 c_3
    refine gw_iload_n dJ1_indexOf_4cfef_9 rfl rfl ?_
    refine gw_iconst dJ1_indexOf_4cfef_10 ic_0 ?_
    refine gw_mmax lmJ1_92 ⟨Nat.le_of_ble_eq_true rfl, Nat.le_of_ble_eq_true rfl⟩ (Nat.le_of_ble_eq_true rfl) dJ1_indexOf_4cfef_11 ?_
    refine gw_istore_n (ls' := [some (.ref (ad (1010 + i))), some (.int p2), some (.int (if p3 < (0 : Int32) then (0 : Int32) else p3)), some (.int p4)]) dJ1_indexOf_4cfef_14 rfl (Nat.le_of_ble_eq_true rfl) rfl ?_
    refine gw_iload_n dJ1_indexOf_4cfef_15 rfl rfl ?_
    refine gw_aload_n dJ1_indexOf_4cfef_16 rfl rfl ?_
    refine gw_slen (i := i) hi dJ1_indexOf_4cfef_17 ?_
    refine gw_mmin lmJ1_38 ⟨Nat.le_of_ble_eq_true rfl, Nat.le_of_ble_eq_true rfl⟩ (Nat.le_of_ble_eq_true rfl) dJ1_indexOf_4cfef_18 ?_
    refine gw_istore_n (ls' := [some (.ref (ad (1010 + i))), some (.int p2), some (.int (if p3 < (0 : Int32) then (0 : Int32) else p3)), some (.int (if (Int32.ofNat (gw_len2.getD i 0)) < p4 then (Int32.ofNat (gw_len2.getD i 0)) else p4))]) dJ1_indexOf_4cfef_21 rfl (Nat.le_of_ble_eq_true rfl) rfl ?_
    refine gw_iload_n dJ1_indexOf_4cfef_22 rfl rfl ?_
    refine gw_iload_n dJ1_indexOf_4cfef_23 rfl rfl ?_
    refine gw_icmp_lt (tgt := 29) dJ1_indexOf_4cfef_24 (by decide) (fun c_4 => ?_) (fun c_4 => ?_)
    · have hw := hw.1 c_4
      refine gw_aload_n dJ1_indexOf_4cfef_29 rfl rfl ?_
      refine gw_iload_n dJ1_indexOf_4cfef_30 rfl rfl ?_
      refine gw_iload_n dJ1_indexOf_4cfef_31 rfl rfl ?_
      refine gw_iload_n dJ1_indexOf_4cfef_32 rfl rfl ?_
      refine gw_callSi (As := [.ref (ad (1010 + i)), .int p2, .int (if p3 < (0 : Int32) then (0 : Int32) else p3), .int (if (Int32.ofNat (gw_len2.getD i 0)) < p4 then (Int32.ofNat (gw_len2.getD i 0)) else p4)]) (rest := []) rfl (gc_J1_indexOfChar_4cfef hi hw) mJ1_indexOfChar_4cfef lmJ1_95 rfl rfl ⟨Nat.le_of_ble_eq_true rfl, Nat.le_of_ble_eq_true rfl⟩ (Nat.le_of_ble_eq_true rfl) dJ1_indexOf_4cfef_33 (fun r_6 h_5 hw => ?_)
      exact gw_ireturn (ty := .int) hw rfl rfl dJ1_indexOf_4cfef_36
    · have hw := hw.2 c_4
      refine gw_iconst dJ1_indexOf_4cfef_27 ic_m1 ?_
      exact gw_ireturn (ty := .int) hw rfl rfl dJ1_indexOf_4cfef_28
  · have hw := hw.2 c_3
    refine gw_iconst dJ1_indexOf_4cfef_7 ic_m1 ?_
    exact gw_ireturn (ty := .int) hw rfl rfl dJ1_indexOf_4cfef_8
def wp_J0_indexOf_7cf53 (h : gw_H) (i : Nat) (p1 : Int32) (p2 : Int32) (Q : Int32 → gw_H → Prop) : Prop :=
  (wp_J0_isLatin1_aae02 h i (fun r_2 h_1 => ((r_2 = 0 → (wp_J0_length_8abf5 h_1 i (fun r_5 h_4 => False))) ∧ (¬ r_2 = 0 → (wp_J0_length_8abf5 h_1 i (fun r_7 h_6 => (wp_J1_indexOf_4cfef h_6 i p1 p2 r_7 (fun r_9 h_8 => Q r_9 h_8))))))))
set_option maxRecDepth 100000 in
set_option maxHeartbeats 4000000 in
theorem gc_J0_indexOf_7cf53 {l : Launch} {ad : Nat → Nat} {h : gw_H} {i : Nat} {p1 : Int32} {p2 : Int32} {Q : Int32 → gw_H → Prop} (hi : i < 2) (hw : wp_J0_indexOf_7cf53 h i p1 p2 Q) : gw_C l yJ0_indexOf_7cf53 cJ0_indexOf_7cf53 3 (some .int) 2 48 vC ad [.ref (ad (1000 + i)), .int p1, .int p2] h Q := by
  refine gw_entry (own := RJ0) [some (.ref (ad (1000 + i))), some (.int p1), some (.int p2)] pl_J0 rfl rfl (Nat.le_of_ble_eq_true rfl) rfl (fun X => ?_)
  unfold wp_J0_indexOf_7cf53 at hw
  refine gw_aload_n dJ0_indexOf_7cf53_0 rfl rfl ?_
  refine gw_callTi (i := i) (As := []) (rest := []) rfl (gc_J0_isLatin1_aae02 hi hw) mJ0_isLatin1_aae02 lmJ0_492 hi rfl rfl rfl ⟨Nat.le_of_ble_eq_true rfl, Nat.le_of_ble_eq_true rfl⟩ (Nat.le_of_ble_eq_true rfl) dJ0_indexOf_7cf53_1 (fun r_2 h_1 hw => ?_)
  refine gw_if_eq (tgt := 23) dJ0_indexOf_7cf53_4 (by decide) (fun c_3 => ?_) (fun c_3 => ?_)
  · have hw := hw.1 c_3
    refine gw_aload_n dJ0_indexOf_7cf53_23 rfl rfl ?_
    refine gw_sval (i := i) hi lfJ0_9 dJ0_indexOf_7cf53_24 ?_
    refine gw_iload_n dJ0_indexOf_7cf53_27 rfl rfl ?_
    refine gw_iload_n dJ0_indexOf_7cf53_28 rfl rfl ?_
    refine gw_aload_n dJ0_indexOf_7cf53_29 rfl rfl ?_
    refine gw_callTi (i := i) (As := []) (rest := [.int p2, .int p1, .ref (ad (1010 + i))]) rfl (gc_J0_length_8abf5 hi hw) mJ0_length_8abf5 lmJ0_505 hi rfl rfl rfl ⟨Nat.le_of_ble_eq_true rfl, Nat.le_of_ble_eq_true rfl⟩ (Nat.le_of_ble_eq_true rfl) dJ0_indexOf_7cf53_30 (fun r_5 h_4 hw => ?_)
    exact hw.elim
  · have hw := hw.2 c_3
    refine gw_aload_n dJ0_indexOf_7cf53_7 rfl rfl ?_
    refine gw_sval (i := i) hi lfJ0_9 dJ0_indexOf_7cf53_8 ?_
    refine gw_iload_n dJ0_indexOf_7cf53_11 rfl rfl ?_
    refine gw_iload_n dJ0_indexOf_7cf53_12 rfl rfl ?_
    refine gw_aload_n dJ0_indexOf_7cf53_13 rfl rfl ?_
    refine gw_callTi (i := i) (As := []) (rest := [.int p2, .int p1, .ref (ad (1010 + i))]) rfl (gc_J0_length_8abf5 hi hw) mJ0_length_8abf5 lmJ0_505 hi rfl rfl rfl ⟨Nat.le_of_ble_eq_true rfl, Nat.le_of_ble_eq_true rfl⟩ (Nat.le_of_ble_eq_true rfl) dJ0_indexOf_7cf53_14 (fun r_7 h_6 hw => ?_)
    refine gw_callSi (As := [.ref (ad (1010 + i)), .int p1, .int p2, .int r_7]) (rest := []) rfl (gc_J1_indexOf_4cfef hi hw) mJ1_indexOf_4cfef lmJ0_637 rfl rfl ⟨Nat.le_of_ble_eq_true rfl, Nat.le_of_ble_eq_true rfl⟩ (Nat.le_of_ble_eq_true rfl) dJ0_indexOf_7cf53_17 (fun r_9 h_8 hw => ?_)
    refine gw_goto (tgt := 36) dJ0_indexOf_7cf53_20 (by decide) ?_
    exact gw_ireturn (ty := .int) hw rfl rfl dJ0_indexOf_7cf53_36
def wp_J0_indexOf_0f7a4 (h : gw_H) (i : Nat) (p1 : Int32) (Q : Int32 → gw_H → Prop) : Prop :=
  (wp_J0_indexOf_7cf53 h i p1 (0 : Int32) (fun r_2 h_1 => Q r_2 h_1))
set_option maxRecDepth 100000 in
set_option maxHeartbeats 4000000 in
theorem gc_J0_indexOf_0f7a4 {l : Launch} {ad : Nat → Nat} {h : gw_H} {i : Nat} {p1 : Int32} {Q : Int32 → gw_H → Prop} (hi : i < 2) (hw : wp_J0_indexOf_0f7a4 h i p1 Q) : gw_C l yJ0_indexOf_0f7a4 cJ0_indexOf_0f7a4 2 (some .int) 3 70 vC ad [.ref (ad (1000 + i)), .int p1] h Q := by
  refine gw_entry (own := RJ0) [some (.ref (ad (1000 + i))), some (.int p1)] pl_J0 rfl rfl (Nat.le_of_ble_eq_true rfl) rfl (fun X => ?_)
  unfold wp_J0_indexOf_0f7a4 at hw
  refine gw_aload_n dJ0_indexOf_0f7a4_0 rfl rfl ?_
  refine gw_iload_n dJ0_indexOf_0f7a4_1 rfl rfl ?_
  refine gw_iconst dJ0_indexOf_0f7a4_2 ic_0 ?_
  refine gw_callTi (i := i) (As := [.int p1, .int (0 : Int32)]) (rest := []) rfl (gc_J0_indexOf_7cf53 hi hw) mJ0_indexOf_7cf53 lmJ0_633 hi rfl rfl rfl ⟨Nat.le_of_ble_eq_true rfl, Nat.le_of_ble_eq_true rfl⟩ (Nat.le_of_ble_eq_true rfl) dJ0_indexOf_0f7a4_3 (fun r_2 h_1 hw => ?_)
  exact gw_ireturn (ty := .int) hw rfl rfl dJ0_indexOf_0f7a4_6
def wp_X5_isRoom (h : gw_H) (p1 : Int32) (Q : Int32 → gw_H → Prop) : Prop :=
  ((p1 < 0 → Q (0 : Int32) h) ∧ (¬ p1 < 0 → (((5 : Int32) ≤ p1 → Q (0 : Int32) h) ∧ (¬ (5 : Int32) ≤ p1 → Q (1 : Int32) h))))
set_option maxRecDepth 100000 in
set_option maxHeartbeats 4000000 in
theorem gc_X5_isRoom {l : Launch} {ad : Nat → Nat} {h : gw_H} {p1 : Int32} {Q : Int32 → gw_H → Prop}  (hw : wp_X5_isRoom h p1 Q) : gw_C l yX5_isRoom cX5_isRoom 1 (some .boolean) 0 0 vC ad [.int p1] h Q := by
  refine gw_entry (own := RX5) [some (.int p1)] pl_X5 rfl rfl (Nat.le_of_ble_eq_true rfl) rfl (fun X => ?_)
  unfold wp_X5_isRoom at hw
  refine gw_iload_n dX5_isRoom_0 rfl rfl ?_
  refine gw_if_lt (tgt := 13) dX5_isRoom_1 (by decide) (fun c_1 => ?_) (fun c_1 => ?_)
  · have hw := hw.1 c_1
    refine gw_iconst dX5_isRoom_13 ic_0 ?_
    exact gw_ireturn (ty := .boolean) hw rfl rfl dX5_isRoom_14
  · have hw := hw.2 c_1
    refine gw_iload_n dX5_isRoom_4 rfl rfl ?_
    refine gw_iconst dX5_isRoom_5 ic_5 ?_
    refine gw_icmp_ge (tgt := 13) dX5_isRoom_6 (by decide) (fun c_2 => ?_) (fun c_2 => ?_)
    · have hw := hw.1 c_2
      refine gw_iconst dX5_isRoom_13 ic_0 ?_
      exact gw_ireturn (ty := .boolean) hw rfl rfl dX5_isRoom_14
    · have hw := hw.2 c_2
      refine gw_iconst dX5_isRoom_9 ic_1 ?_
      refine gw_goto (tgt := 14) dX5_isRoom_10 (by decide) ?_
      exact gw_ireturn (ty := .boolean) hw rfl rfl dX5_isRoom_14
def wp_X5_put (h : gw_H) (a1 : Nat) (n1 : Nat) (p2 : Int32) (p3 : Int32) (Q : Int32 → gw_H → Prop) : Prop :=
  ((p2 < 0 → Q 0 h) ∧ (¬ p2 < 0 → (((Int32.ofNat n1) ≤ p2 → Q 0 h) ∧ (¬ (Int32.ofNat n1) ≤ p2 → (vp_in p2 n1 ∧ Q 0 (gw_up h a1 p2.toNatClampNeg p3))))))
set_option maxRecDepth 100000 in
set_option maxHeartbeats 4000000 in
theorem gc_X5_put {l : Launch} {ad : Nat → Nat} {h : gw_H} {a1 : Nat} {n1 : Nat} {p2 : Int32} {p3 : Int32} {Q : Int32 → gw_H → Prop} (hA1 : gw_Ar vC a1 n1) (hw : wp_X5_put h a1 n1 p2 p3 Q) : gw_C l yX5_put cX5_put 3 none 0 0 vC ad [.ref (ad a1), .int p2, .int p3] h Q := by
  refine gw_entry (own := RX5) [some (.ref (ad a1)), some (.int p2), some (.int p3)] pl_X5 rfl rfl (Nat.le_of_ble_eq_true rfl) rfl (fun X => ?_)
  unfold wp_X5_put at hw
  refine gw_iload_n dX5_put_0 rfl rfl ?_
  refine gw_if_lt (tgt := 14) dX5_put_1 (by decide) (fun c_1 => ?_) (fun c_1 => ?_)
  · have hw := hw.1 c_1
    exact gw_return hw rfl dX5_put_14
  · have hw := hw.2 c_1
    refine gw_iload_n dX5_put_4 rfl rfl ?_
    refine gw_aload_n dX5_put_5 rfl rfl ?_
    refine gw_alen hA1 rfl dX5_put_6 ?_
    refine gw_icmp_ge (tgt := 14) dX5_put_7 (by decide) (fun c_2 => ?_) (fun c_2 => ?_)
    · have hw := hw.1 c_2
      exact gw_return hw rfl dX5_put_14
    · have hw := hw.2 c_2
      refine gw_aload_n dX5_put_10 rfl rfl ?_
      refine gw_iload_n dX5_put_11 rfl rfl ?_
      refine gw_iload_n dX5_put_12 rfl rfl ?_
      have q_3 := hw.1
      have hw := hw.2
      refine gw_iast hA1 q_3 rfl dX5_put_13 ?_
      exact gw_return hw rfl dX5_put_14
def wp_X0_add (h : gw_H) (b : Nat) (p1 : Int32) (p2 : Int32) (Q : Int32 → gw_H → Prop) : Prop :=
  (((8 : Int32) ≤ (h (b + 1) 3) → Q (0 : Int32) h) ∧ (¬ (8 : Int32) ≤ (h (b + 1) 3) → (wp_X5_isRoom h p1 (fun r_3 h_2 => ((r_3 = 0 → Q (0 : Int32) h_2) ∧ (¬ r_3 = 0 → (wp_X5_isRoom h_2 p2 (fun r_6 h_5 => ((r_6 = 0 → Q (0 : Int32) h_5) ∧ (¬ r_6 = 0 → ((¬ p1 = p2 → (wp_X5_put h_5 (b + 2) 8 (h_5 (b + 1) 3) p1 (fun _ h_9 => (wp_X5_put h_9 (b + 3) 8 (h_9 (b + 1) 3) p2 (fun _ h_10 => (wp_X5_put h_10 (b + 4) 8 (h_10 (b + 1) 3) (1 : Int32) (fun _ h_11 => Q (1 : Int32) (gw_up h_11 (b + 1) 3 ((h_11 (b + 1) 3) + (1 : Int32)))))))))) ∧ (p1 = p2 → Q (0 : Int32) h_5))))))))))))
set_option maxRecDepth 100000 in
set_option maxHeartbeats 4000000 in
theorem gc_X0_add {l : Launch} {ad : Nat → Nat} {h : gw_H} {b : Nat} {p1 : Int32} {p2 : Int32} {Q : Int32 → gw_H → Prop} (hb : gw_b b) (hw : wp_X0_add h b p1 p2 Q) : gw_C l yX0_add cX0_add 3 (some .boolean) 1 22 vC ad [.ref (ad (b + 1)), .int p1, .int p2] h Q := by
  refine gw_entry (own := RX0) [some (.ref (ad (b + 1))), some (.int p1), some (.int p2)] pl_X0 rfl rfl (Nat.le_of_ble_eq_true rfl) rfl (fun X => ?_)
  unfold wp_X0_add at hw
  refine gw_aload_n dX0_add_0 rfl rfl ?_
  refine gw_getf (k := 3) (v := .int (h (b + 1) 3)) (oX0 hb) clX0 inUX0 (Nat.le_of_ble_eq_true rfl) rfl lfX0_21 rfl dX0_add_1 ?_
  refine gw_bipush dX0_add_4 bp_8 ?_
  refine gw_icmp_ge (tgt := 28) dX0_add_6 (by decide) (fun c_1 => ?_) (fun c_1 => ?_)
  · have hw := hw.1 c_1
    refine gw_iconst dX0_add_28 ic_0 ?_
    exact gw_ireturn (ty := .boolean) hw rfl rfl dX0_add_29
  · have hw := hw.2 c_1
    refine gw_iload_n dX0_add_9 rfl rfl ?_
    refine gw_callNi (As := [.int p1]) (rest := []) rfl (gc_X5_isRoom  hw) mX5_isRoom lmX0_25 rfl rfl ⟨Nat.le_of_ble_eq_true rfl, Nat.le_of_ble_eq_true rfl⟩ (Nat.le_of_ble_eq_true rfl) dX0_add_10 (fun r_3 h_2 hw => ?_)
    refine gw_if_eq (tgt := 28) dX0_add_13 (by decide) (fun c_4 => ?_) (fun c_4 => ?_)
    · have hw := hw.1 c_4
      refine gw_iconst dX0_add_28 ic_0 ?_
      exact gw_ireturn (ty := .boolean) hw rfl rfl dX0_add_29
    · have hw := hw.2 c_4
      refine gw_iload_n dX0_add_16 rfl rfl ?_
      refine gw_callNi (As := [.int p2]) (rest := []) rfl (gc_X5_isRoom  hw) mX5_isRoom lmX0_25 rfl rfl ⟨Nat.le_of_ble_eq_true rfl, Nat.le_of_ble_eq_true rfl⟩ (Nat.le_of_ble_eq_true rfl) dX0_add_17 (fun r_6 h_5 hw => ?_)
      refine gw_if_eq (tgt := 28) dX0_add_20 (by decide) (fun c_7 => ?_) (fun c_7 => ?_)
      · have hw := hw.1 c_7
        refine gw_iconst dX0_add_28 ic_0 ?_
        exact gw_ireturn (ty := .boolean) hw rfl rfl dX0_add_29
      · have hw := hw.2 c_7
        refine gw_iload_n dX0_add_23 rfl rfl ?_
        refine gw_iload_n dX0_add_24 rfl rfl ?_
        refine gw_icmp_ne (tgt := 30) dX0_add_25 (by decide) (fun c_8 => ?_) (fun c_8 => ?_)
        · have hw := hw.1 c_8
          refine gw_aload_n dX0_add_30 rfl rfl ?_
          refine gw_getf (k := 0) (v := .ref (ad (b + 2))) (oX0 hb) clX0 inUX0 (Nat.le_of_ble_eq_true rfl) rfl lfX0_9 rfl dX0_add_31 ?_
          refine gw_aload_n dX0_add_34 rfl rfl ?_
          refine gw_getf (k := 3) (v := .int (h_5 (b + 1) 3)) (oX0 hb) clX0 inUX0 (Nat.le_of_ble_eq_true rfl) rfl lfX0_21 rfl dX0_add_35 ?_
          refine gw_iload_n dX0_add_38 rfl rfl ?_
          refine gw_callNv (As := [.ref (ad (b + 2)), .int (h_5 (b + 1) 3), .int p1]) (rest := []) rfl (gc_X5_put (ar_2 hb) hw) mX5_put lmX0_29 rfl rfl ⟨Nat.le_of_ble_eq_true rfl, Nat.le_of_ble_eq_true rfl⟩ (Nat.le_of_ble_eq_true rfl) dX0_add_39 (fun h_9 hw => ?_)
          refine gw_aload_n dX0_add_42 rfl rfl ?_
          refine gw_getf (k := 1) (v := .ref (ad (b + 3))) (oX0 hb) clX0 inUX0 (Nat.le_of_ble_eq_true rfl) rfl lfX0_15 rfl dX0_add_43 ?_
          refine gw_aload_n dX0_add_46 rfl rfl ?_
          refine gw_getf (k := 3) (v := .int (h_9 (b + 1) 3)) (oX0 hb) clX0 inUX0 (Nat.le_of_ble_eq_true rfl) rfl lfX0_21 rfl dX0_add_47 ?_
          refine gw_iload_n dX0_add_50 rfl rfl ?_
          refine gw_callNv (As := [.ref (ad (b + 3)), .int (h_9 (b + 1) 3), .int p2]) (rest := []) rfl (gc_X5_put (ar_3 hb) hw) mX5_put lmX0_29 rfl rfl ⟨Nat.le_of_ble_eq_true rfl, Nat.le_of_ble_eq_true rfl⟩ (Nat.le_of_ble_eq_true rfl) dX0_add_51 (fun h_10 hw => ?_)
          refine gw_aload_n dX0_add_54 rfl rfl ?_
          refine gw_getf (k := 2) (v := .ref (ad (b + 4))) (oX0 hb) clX0 inUX0 (Nat.le_of_ble_eq_true rfl) rfl lfX0_18 rfl dX0_add_55 ?_
          refine gw_aload_n dX0_add_58 rfl rfl ?_
          refine gw_getf (k := 3) (v := .int (h_10 (b + 1) 3)) (oX0 hb) clX0 inUX0 (Nat.le_of_ble_eq_true rfl) rfl lfX0_21 rfl dX0_add_59 ?_
          refine gw_iconst dX0_add_62 ic_1 ?_
          refine gw_callNv (As := [.ref (ad (b + 4)), .int (h_10 (b + 1) 3), .int (1 : Int32)]) (rest := []) rfl (gc_X5_put (ar_4 hb) hw) mX5_put lmX0_29 rfl rfl ⟨Nat.le_of_ble_eq_true rfl, Nat.le_of_ble_eq_true rfl⟩ (Nat.le_of_ble_eq_true rfl) dX0_add_63 (fun h_11 hw => ?_)
          refine gw_aload_n dX0_add_66 rfl rfl ?_
          refine gw_dup dX0_add_67 rfl ?_
          refine gw_getf (k := 3) (v := .int (h_11 (b + 1) 3)) (oX0 hb) clX0 inUX0 (Nat.le_of_ble_eq_true rfl) rfl lfX0_21 rfl dX0_add_68 ?_
          refine gw_iconst dX0_add_71 ic_1 ?_
          refine gw_iadd dX0_add_72 ?_
          refine gw_putf (k := 3) (ty := .int) (oX0 hb) clX0 inUX0 tyX0_ok nmX0 (Nat.le_of_ble_eq_true rfl) rfl lfX0_21 (by decide +kernel) rfl rfl st_X0_3 dX0_add_73 ?_
          refine gw_iconst dX0_add_76 ic_1 ?_
          exact gw_ireturn (ty := .boolean) hw rfl rfl dX0_add_77
        · have hw := hw.2 c_8
          refine gw_iconst dX0_add_28 ic_0 ?_
          exact gw_ireturn (ty := .boolean) hw rfl rfl dX0_add_29
def wp_X0_has (h : gw_H) (b : Nat) (p1 : Int32) (Q : Int32 → gw_H → Prop) : Prop :=
  ((p1 < 0 → Q (0 : Int32) h) ∧ (¬ p1 < 0 → (((h (b + 1) 3) ≤ p1 → Q (0 : Int32) h) ∧ (¬ (h (b + 1) 3) ≤ p1 → Q (1 : Int32) h))))
set_option maxRecDepth 100000 in
set_option maxHeartbeats 4000000 in
theorem gc_X0_has {l : Launch} {ad : Nat → Nat} {h : gw_H} {b : Nat} {p1 : Int32} {Q : Int32 → gw_H → Prop} (hb : gw_b b) (hw : wp_X0_has h b p1 Q) : gw_C l yX0_has cX0_has 2 (some .boolean) 0 0 vC ad [.ref (ad (b + 1)), .int p1] h Q := by
  refine gw_entry (own := RX0) [some (.ref (ad (b + 1))), some (.int p1)] pl_X0 rfl rfl (Nat.le_of_ble_eq_true rfl) rfl (fun X => ?_)
  unfold wp_X0_has at hw
  refine gw_iload_n dX0_has_0 rfl rfl ?_
  refine gw_if_lt (tgt := 16) dX0_has_1 (by decide) (fun c_1 => ?_) (fun c_1 => ?_)
  · have hw := hw.1 c_1
    refine gw_iconst dX0_has_16 ic_0 ?_
    exact gw_ireturn (ty := .boolean) hw rfl rfl dX0_has_17
  · have hw := hw.2 c_1
    refine gw_iload_n dX0_has_4 rfl rfl ?_
    refine gw_aload_n dX0_has_5 rfl rfl ?_
    refine gw_getf (k := 3) (v := .int (h (b + 1) 3)) (oX0 hb) clX0 inUX0 (Nat.le_of_ble_eq_true rfl) rfl lfX0_21 rfl dX0_has_6 ?_
    refine gw_icmp_ge (tgt := 16) dX0_has_9 (by decide) (fun c_2 => ?_) (fun c_2 => ?_)
    · have hw := hw.1 c_2
      refine gw_iconst dX0_has_16 ic_0 ?_
      exact gw_ireturn (ty := .boolean) hw rfl rfl dX0_has_17
    · have hw := hw.2 c_2
      refine gw_iconst dX0_has_12 ic_1 ?_
      refine gw_goto (tgt := 17) dX0_has_13 (by decide) ?_
      exact gw_ireturn (ty := .boolean) hw rfl rfl dX0_has_17
def wp_X5_at (h : gw_H) (a1 : Nat) (n1 : Nat) (p2 : Int32) (Q : Int32 → gw_H → Prop) : Prop :=
  ((p2 < 0 → Q (-9 : Int32) h) ∧ (¬ p2 < 0 → (((Int32.ofNat n1) ≤ p2 → Q (-9 : Int32) h) ∧ (¬ (Int32.ofNat n1) ≤ p2 → (vp_in p2 n1 ∧ Q (h a1 p2.toNatClampNeg) h)))))
set_option maxRecDepth 100000 in
set_option maxHeartbeats 4000000 in
theorem gc_X5_at {l : Launch} {ad : Nat → Nat} {h : gw_H} {a1 : Nat} {n1 : Nat} {p2 : Int32} {Q : Int32 → gw_H → Prop} (hA1 : gw_Ar vC a1 n1) (hw : wp_X5_at h a1 n1 p2 Q) : gw_C l yX5_at cX5_at 2 (some .int) 0 0 vC ad [.ref (ad a1), .int p2] h Q := by
  refine gw_entry (own := RX5) [some (.ref (ad a1)), some (.int p2)] pl_X5 rfl rfl (Nat.le_of_ble_eq_true rfl) rfl (fun X => ?_)
  unfold wp_X5_at at hw
  refine gw_iload_n dX5_at_0 rfl rfl ?_
  refine gw_if_lt (tgt := 16) dX5_at_1 (by decide) (fun c_1 => ?_) (fun c_1 => ?_)
  · have hw := hw.1 c_1
    refine gw_bipush dX5_at_16 bp_m9 ?_
    exact gw_ireturn (ty := .int) hw rfl rfl dX5_at_18
  · have hw := hw.2 c_1
    refine gw_iload_n dX5_at_4 rfl rfl ?_
    refine gw_aload_n dX5_at_5 rfl rfl ?_
    refine gw_alen hA1 rfl dX5_at_6 ?_
    refine gw_icmp_ge (tgt := 16) dX5_at_7 (by decide) (fun c_2 => ?_) (fun c_2 => ?_)
    · have hw := hw.1 c_2
      refine gw_bipush dX5_at_16 bp_m9 ?_
      exact gw_ireturn (ty := .int) hw rfl rfl dX5_at_18
    · have hw := hw.2 c_2
      refine gw_aload_n dX5_at_10 rfl rfl ?_
      refine gw_iload_n dX5_at_11 rfl rfl ?_
      have q_3 := hw.1
      have hw := hw.2
      refine gw_iald hA1 q_3 rfl dX5_at_12 ?_
      refine gw_goto (tgt := 18) dX5_at_13 (by decide) ?_
      exact gw_ireturn (ty := .int) hw rfl rfl dX5_at_18
def wp_X0_isOpen (h : gw_H) (b : Nat) (p1 : Int32) (Q : Int32 → gw_H → Prop) : Prop :=
  (wp_X0_has h b p1 (fun r_2 h_1 => ((r_2 = 0 → Q (0 : Int32) h_1) ∧ (¬ r_2 = 0 → (wp_X5_at h_1 (b + 4) 8 p1 (fun r_5 h_4 => ((¬ r_5 = (1 : Int32) → Q (0 : Int32) h_4) ∧ (r_5 = (1 : Int32) → Q (1 : Int32) h_4))))))))
set_option maxRecDepth 100000 in
set_option maxHeartbeats 4000000 in
theorem gc_X0_isOpen {l : Launch} {ad : Nat → Nat} {h : gw_H} {b : Nat} {p1 : Int32} {Q : Int32 → gw_H → Prop} (hb : gw_b b) (hw : wp_X0_isOpen h b p1 Q) : gw_C l yX0_isOpen cX0_isOpen 2 (some .boolean) 1 21 vC ad [.ref (ad (b + 1)), .int p1] h Q := by
  refine gw_entry (own := RX0) [some (.ref (ad (b + 1))), some (.int p1)] pl_X0 rfl rfl (Nat.le_of_ble_eq_true rfl) rfl (fun X => ?_)
  unfold wp_X0_isOpen at hw
  refine gw_aload_n dX0_isOpen_0 rfl rfl ?_
  refine gw_iload_n dX0_isOpen_1 rfl rfl ?_
  refine gw_callVi (As := [.int p1]) (rest := []) rfl (gc_X0_has hb hw) mX0_has lmX0_33 (oX0 hb) clX0 rfl rfl ⟨Nat.le_of_ble_eq_true rfl, Nat.le_of_ble_eq_true rfl⟩ (Nat.le_of_ble_eq_true rfl) dX0_isOpen_2 (fun r_2 h_1 hw => ?_)
  refine gw_if_eq (tgt := 24) dX0_isOpen_5 (by decide) (fun c_3 => ?_) (fun c_3 => ?_)
  · have hw := hw.1 c_3
    refine gw_iconst dX0_isOpen_24 ic_0 ?_
    exact gw_ireturn (ty := .boolean) hw rfl rfl dX0_isOpen_25
  · have hw := hw.2 c_3
    refine gw_aload_n dX0_isOpen_8 rfl rfl ?_
    refine gw_getf (k := 2) (v := .ref (ad (b + 4))) (oX0 hb) clX0 inUX0 (Nat.le_of_ble_eq_true rfl) rfl lfX0_18 rfl dX0_isOpen_9 ?_
    refine gw_iload_n dX0_isOpen_12 rfl rfl ?_
    refine gw_callNi (As := [.ref (ad (b + 4)), .int p1]) (rest := []) rfl (gc_X5_at (ar_4 hb) hw) mX5_at lmX0_36 rfl rfl ⟨Nat.le_of_ble_eq_true rfl, Nat.le_of_ble_eq_true rfl⟩ (Nat.le_of_ble_eq_true rfl) dX0_isOpen_13 (fun r_5 h_4 hw => ?_)
    refine gw_iconst dX0_isOpen_16 ic_1 ?_
    refine gw_icmp_ne (tgt := 24) dX0_isOpen_17 (by decide) (fun c_6 => ?_) (fun c_6 => ?_)
    · have hw := hw.1 c_6
      refine gw_iconst dX0_isOpen_24 ic_0 ?_
      exact gw_ireturn (ty := .boolean) hw rfl rfl dX0_isOpen_25
    · have hw := hw.2 c_6
      refine gw_iconst dX0_isOpen_20 ic_1 ?_
      refine gw_goto (tgt := 25) dX0_isOpen_21 (by decide) ?_
      exact gw_ireturn (ty := .boolean) hw rfl rfl dX0_isOpen_25
def wk_X0_openOnes_26 (b : Nat) (K4 : Int32 → Int32 → gw_H → Prop) (Q : Int32 → gw_H → Prop) : Int32 → Int32 → Int32 → gw_H → Prop :=
  fun x2 s0 s1 h => (K4 (s1 + s0) (x2 + (1 : Int32)) h)
set_option maxRecDepth 100000 in
set_option maxHeartbeats 4000000 in
theorem tk_X0_openOnes_26 {l : Launch} {ad : Nat → Nat} {X : gw_X} {b : Nat} {K4 : Int32 → Int32 → gw_H → Prop} {Q : Int32 → gw_H → Prop} (hb : gw_b b) (hK4 : ∀ (y1 : Int32) (y2 : Int32) (h : gw_H), K4 y1 y2 h → gw_G l vC ad cX0_openOnes RX0 3 (some .int) 2 42 Q X h 4 [some (.ref (ad (b + 1))), some (.int y1), some (.int y2)] []) (x2 : Int32) (s0 : Int32) (s1 : Int32) (h : gw_H) (hw : wk_X0_openOnes_26 b K4 Q x2 s0 s1 h) : gw_G l vC ad cX0_openOnes RX0 3 (some .int) 2 42 Q X h 26 [some (.ref (ad (b + 1))), none, some (.int x2)] [.int s0, .int s1] := by
  unfold wk_X0_openOnes_26 at hw
  refine gw_iadd dX0_openOnes_26 ?_
  refine gw_istore_n (ls' := [some (.ref (ad (b + 1))), some (.int (s1 + s0)), some (.int x2)]) dX0_openOnes_27 rfl (Nat.le_of_ble_eq_true rfl) rfl ?_
  refine gw_iinc (ls' := [some (.ref (ad (b + 1))), some (.int (s1 + s0)), some (.int (x2 + (1 : Int32)))]) dX0_openOnes_28 rfl (congrArg (fun z => x2 + z) ic_1) (Nat.le_of_ble_eq_true rfl) rfl ?_
  refine gw_goto (tgt := 4) dX0_openOnes_31 (by decide) ?_
  exact hK4 (s1 + s0) (x2 + (1 : Int32)) h hw
def wl_X0_openOnes_4 (b : Nat)  (Q : Int32 → gw_H → Prop) : Nat → Int32 → Int32 → gw_H → Prop
  | 0 => fun _ _ _ => False
  | n + 1 => fun x1 x2 h => (((h (b + 1) 3) ≤ x2 → Q x1 h) ∧ (¬ (h (b + 1) 3) ≤ x2 → (wp_X0_isOpen h b x2 (fun r_3 h_2 => ((r_3 = 0 → (wk_X0_openOnes_26 b (wl_X0_openOnes_4 b  Q n) Q x2 (0 : Int32) x1 h_2)) ∧ (¬ r_3 = 0 → (wk_X0_openOnes_26 b (wl_X0_openOnes_4 b  Q n) Q x2 (1 : Int32) x1 h_2)))))))
set_option maxRecDepth 100000 in
set_option maxHeartbeats 4000000 in
theorem tl_X0_openOnes_4 {l : Launch} {ad : Nat → Nat} {X : gw_X} {b : Nat}  {Q : Int32 → gw_H → Prop} (hb : gw_b b)  : ∀ (n : Nat) (x1 : Int32) (x2 : Int32) (h : gw_H), wl_X0_openOnes_4 b  Q n x1 x2 h → gw_G l vC ad cX0_openOnes RX0 3 (some .int) 2 42 Q X h 4 [some (.ref (ad (b + 1))), some (.int x1), some (.int x2)] [] := by
  intro n
  induction n with
  | zero => intro x1 x2 h hw; exact hw.elim
  | succ n ih =>
    intro x1 x2 h hw
    unfold wl_X0_openOnes_4 at hw
    refine gw_iload_n dX0_openOnes_4 rfl rfl ?_
    refine gw_aload_n dX0_openOnes_5 rfl rfl ?_
    refine gw_getf (k := 3) (v := .int (h (b + 1) 3)) (oX0 hb) clX0 inUX0 (Nat.le_of_ble_eq_true rfl) rfl lfX0_21 rfl dX0_openOnes_6 ?_
    refine gw_icmp_ge (tgt := 34) dX0_openOnes_9 (by decide) (fun c_1 => ?_) (fun c_1 => ?_)
    · have hw := hw.1 c_1
      refine gw_iload_n dX0_openOnes_34 rfl rfl ?_
      exact gw_ireturn (ty := .int) hw rfl rfl dX0_openOnes_35
    · have hw := hw.2 c_1
      refine gw_iload_n dX0_openOnes_12 rfl rfl ?_
      refine gw_aload_n dX0_openOnes_13 rfl rfl ?_
      refine gw_iload_n dX0_openOnes_14 rfl rfl ?_
      refine gw_callVi (As := [.int x2]) (rest := [.int x1]) rfl (gc_X0_isOpen hb hw) mX0_isOpen lmX0_40 (oX0 hb) clX0 rfl rfl ⟨Nat.le_of_ble_eq_true rfl, Nat.le_of_ble_eq_true rfl⟩ (Nat.le_of_ble_eq_true rfl) dX0_openOnes_15 (fun r_3 h_2 hw => ?_)
      refine gw_if_eq (tgt := 25) dX0_openOnes_18 (by decide) (fun c_4 => ?_) (fun c_4 => ?_)
      · have hw := hw.1 c_4
        refine gw_iconst dX0_openOnes_25 ic_0 ?_
        refine gw_forget (ls' := [some (.ref (ad (b + 1))), none, some (.int x2)]) (gw_sub.s (gw_sub.n (gw_sub.s gw_sub.z))) ?_
        exact tk_X0_openOnes_26 hb  ih x2 (0 : Int32) x1 h_2 hw
      · have hw := hw.2 c_4
        refine gw_iconst dX0_openOnes_21 ic_1 ?_
        refine gw_goto (tgt := 26) dX0_openOnes_22 (by decide) ?_
        refine gw_forget (ls' := [some (.ref (ad (b + 1))), none, some (.int x2)]) (gw_sub.s (gw_sub.n (gw_sub.s gw_sub.z))) ?_
        exact tk_X0_openOnes_26 hb  ih x2 (1 : Int32) x1 h_2 hw
def wp_X0_openOnes (h : gw_H) (b : Nat) (Q : Int32 → gw_H → Prop) : Prop :=
  (∃ n_5 : Nat, wl_X0_openOnes_4 b  Q n_5 (0 : Int32) (0 : Int32) h)
set_option maxRecDepth 100000 in
set_option maxHeartbeats 4000000 in
theorem gc_X0_openOnes {l : Launch} {ad : Nat → Nat} {h : gw_H} {b : Nat} {Q : Int32 → gw_H → Prop} (hb : gw_b b) (hw : wp_X0_openOnes h b Q) : gw_C l yX0_openOnes cX0_openOnes 3 (some .int) 2 42 vC ad [.ref (ad (b + 1))] h Q := by
  refine gw_entry (own := RX0) [some (.ref (ad (b + 1))), none, none] pl_X0 rfl rfl (Nat.le_of_ble_eq_true rfl) rfl (fun X => ?_)
  unfold wp_X0_openOnes at hw
  refine gw_iconst dX0_openOnes_0 ic_0 ?_
  refine gw_istore_n (ls' := [some (.ref (ad (b + 1))), some (.int (0 : Int32)), none]) dX0_openOnes_1 rfl (Nat.le_of_ble_eq_true rfl) rfl ?_
  refine gw_iconst dX0_openOnes_2 ic_0 ?_
  refine gw_istore_n (ls' := [some (.ref (ad (b + 1))), some (.int (0 : Int32)), some (.int (0 : Int32))]) dX0_openOnes_3 rfl (Nat.le_of_ble_eq_true rfl) rfl ?_
  obtain ⟨n_5, hw⟩ := hw
  exact tl_X0_openOnes_4 hb  n_5 (0 : Int32) (0 : Int32) h hw
def wk_X0_roomsHeardIn_88 (b : Nat) (p1 : Int32) (K6 : Int32 → Int32 → gw_H → Prop) (Q : Int32 → gw_H → Prop) : Int32 → Int32 → gw_H → Prop :=
  fun x2 x3 h => (K6 x2 (x3 + (1 : Int32)) h)
set_option maxRecDepth 100000 in
set_option maxHeartbeats 4000000 in
theorem tk_X0_roomsHeardIn_88 {l : Launch} {ad : Nat → Nat} {X : gw_X} {b : Nat} {p1 : Int32} {K6 : Int32 → Int32 → gw_H → Prop} {Q : Int32 → gw_H → Prop} (hb : gw_b b) (hK6 : ∀ (y2 : Int32) (y3 : Int32) (h : gw_H), K6 y2 y3 h → gw_G l vC ad cX0_roomsHeardIn RX0 4 (some .int) 1 21 Q X h 6 [some (.ref (ad (b + 1))), some (.int p1), some (.int y2), some (.int y3)] []) (x2 : Int32) (x3 : Int32) (h : gw_H) (hw : wk_X0_roomsHeardIn_88 b p1 K6 Q x2 x3 h) : gw_G l vC ad cX0_roomsHeardIn RX0 4 (some .int) 1 21 Q X h 88 [some (.ref (ad (b + 1))), some (.int p1), some (.int x2), some (.int x3)] [] := by
  unfold wk_X0_roomsHeardIn_88 at hw
  refine gw_iinc (ls' := [some (.ref (ad (b + 1))), some (.int p1), some (.int x2), some (.int (x3 + (1 : Int32)))]) dX0_roomsHeardIn_88 rfl (congrArg (fun z => x3 + z) ic_1) (Nat.le_of_ble_eq_true rfl) rfl ?_
  refine gw_goto (tgt := 6) dX0_roomsHeardIn_91 (by decide) ?_
  exact hK6 x2 (x3 + (1 : Int32)) h hw
def wk_X0_roomsHeardIn_51 (b : Nat) (p1 : Int32) (K6 : Int32 → Int32 → gw_H → Prop) (Q : Int32 → gw_H → Prop) : Int32 → Int32 → gw_H → Prop :=
  fun x2 x3 h => (wp_X5_at h (b + 4) 8 x3 (fun r_6 h_5 => ((¬ r_6 = (1 : Int32) → (wk_X0_roomsHeardIn_88 b p1 K6 Q x2 x3 h_5)) ∧ (r_6 = (1 : Int32) → (wp_X5_at h_5 (b + 3) 8 x3 (fun r_9 h_8 => ((¬ r_9 = p1 → (wk_X0_roomsHeardIn_88 b p1 K6 Q x2 x3 h_8)) ∧ (r_9 = p1 → (wp_X5_at h_8 (b + 2) 8 x3 (fun r_12 h_11 => (wk_X0_roomsHeardIn_88 b p1 K6 Q (x2 ||| ((1 : Int32) <<< (r_12 &&& 31))) x3 h_11)))))))))))
set_option maxRecDepth 100000 in
set_option maxHeartbeats 4000000 in
theorem tk_X0_roomsHeardIn_51 {l : Launch} {ad : Nat → Nat} {X : gw_X} {b : Nat} {p1 : Int32} {K6 : Int32 → Int32 → gw_H → Prop} {Q : Int32 → gw_H → Prop} (hb : gw_b b) (hK6 : ∀ (y2 : Int32) (y3 : Int32) (h : gw_H), K6 y2 y3 h → gw_G l vC ad cX0_roomsHeardIn RX0 4 (some .int) 1 21 Q X h 6 [some (.ref (ad (b + 1))), some (.int p1), some (.int y2), some (.int y3)] []) (x2 : Int32) (x3 : Int32) (h : gw_H) (hw : wk_X0_roomsHeardIn_51 b p1 K6 Q x2 x3 h) : gw_G l vC ad cX0_roomsHeardIn RX0 4 (some .int) 1 21 Q X h 51 [some (.ref (ad (b + 1))), some (.int p1), some (.int x2), some (.int x3)] [] := by
  unfold wk_X0_roomsHeardIn_51 at hw
  refine gw_aload_n dX0_roomsHeardIn_51 rfl rfl ?_
  refine gw_getf (k := 2) (v := .ref (ad (b + 4))) (oX0 hb) clX0 inUX0 (Nat.le_of_ble_eq_true rfl) rfl lfX0_18 rfl dX0_roomsHeardIn_52 ?_
  refine gw_iload_n dX0_roomsHeardIn_55 rfl rfl ?_
  refine gw_callNi (As := [.ref (ad (b + 4)), .int x3]) (rest := []) rfl (gc_X5_at (ar_4 hb) hw) mX5_at lmX0_36 rfl rfl ⟨Nat.le_of_ble_eq_true rfl, Nat.le_of_ble_eq_true rfl⟩ (Nat.le_of_ble_eq_true rfl) dX0_roomsHeardIn_56 (fun r_6 h_5 hw => ?_)
  refine gw_iconst dX0_roomsHeardIn_59 ic_1 ?_
  refine gw_icmp_ne (tgt := 88) dX0_roomsHeardIn_60 (by decide) (fun c_7 => ?_) (fun c_7 => ?_)
  · have hw := hw.1 c_7
    exact tk_X0_roomsHeardIn_88 hb hK6 x2 x3 h_5 hw
  · have hw := hw.2 c_7
    refine gw_aload_n dX0_roomsHeardIn_63 rfl rfl ?_
    refine gw_getf (k := 1) (v := .ref (ad (b + 3))) (oX0 hb) clX0 inUX0 (Nat.le_of_ble_eq_true rfl) rfl lfX0_15 rfl dX0_roomsHeardIn_64 ?_
    refine gw_iload_n dX0_roomsHeardIn_67 rfl rfl ?_
    refine gw_callNi (As := [.ref (ad (b + 3)), .int x3]) (rest := []) rfl (gc_X5_at (ar_3 hb) hw) mX5_at lmX0_36 rfl rfl ⟨Nat.le_of_ble_eq_true rfl, Nat.le_of_ble_eq_true rfl⟩ (Nat.le_of_ble_eq_true rfl) dX0_roomsHeardIn_68 (fun r_9 h_8 hw => ?_)
    refine gw_iload_n dX0_roomsHeardIn_71 rfl rfl ?_
    refine gw_icmp_ne (tgt := 88) dX0_roomsHeardIn_72 (by decide) (fun c_10 => ?_) (fun c_10 => ?_)
    · have hw := hw.1 c_10
      exact tk_X0_roomsHeardIn_88 hb hK6 x2 x3 h_8 hw
    · have hw := hw.2 c_10
      refine gw_iload_n dX0_roomsHeardIn_75 rfl rfl ?_
      refine gw_iconst dX0_roomsHeardIn_76 ic_1 ?_
      refine gw_aload_n dX0_roomsHeardIn_77 rfl rfl ?_
      refine gw_getf (k := 0) (v := .ref (ad (b + 2))) (oX0 hb) clX0 inUX0 (Nat.le_of_ble_eq_true rfl) rfl lfX0_9 rfl dX0_roomsHeardIn_78 ?_
      refine gw_iload_n dX0_roomsHeardIn_81 rfl rfl ?_
      refine gw_callNi (As := [.ref (ad (b + 2)), .int x3]) (rest := [.int (1 : Int32), .int x2]) rfl (gc_X5_at (ar_2 hb) hw) mX5_at lmX0_36 rfl rfl ⟨Nat.le_of_ble_eq_true rfl, Nat.le_of_ble_eq_true rfl⟩ (Nat.le_of_ble_eq_true rfl) dX0_roomsHeardIn_82 (fun r_12 h_11 hw => ?_)
      refine gw_ishl dX0_roomsHeardIn_85 ?_
      refine gw_ior dX0_roomsHeardIn_86 ?_
      refine gw_istore_n (ls' := [some (.ref (ad (b + 1))), some (.int p1), some (.int (x2 ||| ((1 : Int32) <<< (r_12 &&& 31)))), some (.int x3)]) dX0_roomsHeardIn_87 rfl (Nat.le_of_ble_eq_true rfl) rfl ?_
      exact tk_X0_roomsHeardIn_88 hb hK6 (x2 ||| ((1 : Int32) <<< (r_12 &&& 31))) x3 h_11 hw
def wl_X0_roomsHeardIn_6 (b : Nat) (p1 : Int32)  (Q : Int32 → gw_H → Prop) : Nat → Int32 → Int32 → gw_H → Prop
  | 0 => fun _ _ _ => False
  | n + 1 => fun x2 x3 h => (((h (b + 1) 3) ≤ x3 → Q x2 h) ∧ (¬ (h (b + 1) 3) ≤ x3 → (wp_X5_at h (b + 4) 8 x3 (fun r_3 h_2 => ((¬ r_3 = (1 : Int32) → (wk_X0_roomsHeardIn_51 b p1 (wl_X0_roomsHeardIn_6 b p1  Q n) Q x2 x3 h_2)) ∧ (r_3 = (1 : Int32) → (wp_X5_at h_2 (b + 2) 8 x3 (fun r_14 h_13 => ((¬ r_14 = p1 → (wk_X0_roomsHeardIn_51 b p1 (wl_X0_roomsHeardIn_6 b p1  Q n) Q x2 x3 h_13)) ∧ (r_14 = p1 → (wp_X5_at h_13 (b + 3) 8 x3 (fun r_17 h_16 => (wk_X0_roomsHeardIn_51 b p1 (wl_X0_roomsHeardIn_6 b p1  Q n) Q (x2 ||| ((1 : Int32) <<< (r_17 &&& 31))) x3 h_16)))))))))))))
set_option maxRecDepth 100000 in
set_option maxHeartbeats 4000000 in
theorem tl_X0_roomsHeardIn_6 {l : Launch} {ad : Nat → Nat} {X : gw_X} {b : Nat} {p1 : Int32}  {Q : Int32 → gw_H → Prop} (hb : gw_b b)  : ∀ (n : Nat) (x2 : Int32) (x3 : Int32) (h : gw_H), wl_X0_roomsHeardIn_6 b p1  Q n x2 x3 h → gw_G l vC ad cX0_roomsHeardIn RX0 4 (some .int) 1 21 Q X h 6 [some (.ref (ad (b + 1))), some (.int p1), some (.int x2), some (.int x3)] [] := by
  intro n
  induction n with
  | zero => intro x2 x3 h hw; exact hw.elim
  | succ n ih =>
    intro x2 x3 h hw
    unfold wl_X0_roomsHeardIn_6 at hw
    refine gw_iload_n dX0_roomsHeardIn_6 rfl rfl ?_
    refine gw_aload_n dX0_roomsHeardIn_7 rfl rfl ?_
    refine gw_getf (k := 3) (v := .int (h (b + 1) 3)) (oX0 hb) clX0 inUX0 (Nat.le_of_ble_eq_true rfl) rfl lfX0_21 rfl dX0_roomsHeardIn_8 ?_
    refine gw_icmp_ge (tgt := 94) dX0_roomsHeardIn_11 (by decide) (fun c_1 => ?_) (fun c_1 => ?_)
    · have hw := hw.1 c_1
      refine gw_iload_n dX0_roomsHeardIn_94 rfl rfl ?_
      exact gw_ireturn (ty := .int) hw rfl rfl dX0_roomsHeardIn_95
    · have hw := hw.2 c_1
      refine gw_aload_n dX0_roomsHeardIn_14 rfl rfl ?_
      refine gw_getf (k := 2) (v := .ref (ad (b + 4))) (oX0 hb) clX0 inUX0 (Nat.le_of_ble_eq_true rfl) rfl lfX0_18 rfl dX0_roomsHeardIn_15 ?_
      refine gw_iload_n dX0_roomsHeardIn_18 rfl rfl ?_
      refine gw_callNi (As := [.ref (ad (b + 4)), .int x3]) (rest := []) rfl (gc_X5_at (ar_4 hb) hw) mX5_at lmX0_36 rfl rfl ⟨Nat.le_of_ble_eq_true rfl, Nat.le_of_ble_eq_true rfl⟩ (Nat.le_of_ble_eq_true rfl) dX0_roomsHeardIn_19 (fun r_3 h_2 hw => ?_)
      refine gw_iconst dX0_roomsHeardIn_22 ic_1 ?_
      refine gw_icmp_ne (tgt := 51) dX0_roomsHeardIn_23 (by decide) (fun c_4 => ?_) (fun c_4 => ?_)
      · have hw := hw.1 c_4
        exact tk_X0_roomsHeardIn_51 hb  ih x2 x3 h_2 hw
      · have hw := hw.2 c_4
        refine gw_aload_n dX0_roomsHeardIn_26 rfl rfl ?_
        refine gw_getf (k := 0) (v := .ref (ad (b + 2))) (oX0 hb) clX0 inUX0 (Nat.le_of_ble_eq_true rfl) rfl lfX0_9 rfl dX0_roomsHeardIn_27 ?_
        refine gw_iload_n dX0_roomsHeardIn_30 rfl rfl ?_
        refine gw_callNi (As := [.ref (ad (b + 2)), .int x3]) (rest := []) rfl (gc_X5_at (ar_2 hb) hw) mX5_at lmX0_36 rfl rfl ⟨Nat.le_of_ble_eq_true rfl, Nat.le_of_ble_eq_true rfl⟩ (Nat.le_of_ble_eq_true rfl) dX0_roomsHeardIn_31 (fun r_14 h_13 hw => ?_)
        refine gw_iload_n dX0_roomsHeardIn_34 rfl rfl ?_
        refine gw_icmp_ne (tgt := 51) dX0_roomsHeardIn_35 (by decide) (fun c_15 => ?_) (fun c_15 => ?_)
        · have hw := hw.1 c_15
          exact tk_X0_roomsHeardIn_51 hb  ih x2 x3 h_13 hw
        · have hw := hw.2 c_15
          refine gw_iload_n dX0_roomsHeardIn_38 rfl rfl ?_
          refine gw_iconst dX0_roomsHeardIn_39 ic_1 ?_
          refine gw_aload_n dX0_roomsHeardIn_40 rfl rfl ?_
          refine gw_getf (k := 1) (v := .ref (ad (b + 3))) (oX0 hb) clX0 inUX0 (Nat.le_of_ble_eq_true rfl) rfl lfX0_15 rfl dX0_roomsHeardIn_41 ?_
          refine gw_iload_n dX0_roomsHeardIn_44 rfl rfl ?_
          refine gw_callNi (As := [.ref (ad (b + 3)), .int x3]) (rest := [.int (1 : Int32), .int x2]) rfl (gc_X5_at (ar_3 hb) hw) mX5_at lmX0_36 rfl rfl ⟨Nat.le_of_ble_eq_true rfl, Nat.le_of_ble_eq_true rfl⟩ (Nat.le_of_ble_eq_true rfl) dX0_roomsHeardIn_45 (fun r_17 h_16 hw => ?_)
          refine gw_ishl dX0_roomsHeardIn_48 ?_
          refine gw_ior dX0_roomsHeardIn_49 ?_
          refine gw_istore_n (ls' := [some (.ref (ad (b + 1))), some (.int p1), some (.int (x2 ||| ((1 : Int32) <<< (r_17 &&& 31)))), some (.int x3)]) dX0_roomsHeardIn_50 rfl (Nat.le_of_ble_eq_true rfl) rfl ?_
          exact tk_X0_roomsHeardIn_51 hb  ih (x2 ||| ((1 : Int32) <<< (r_17 &&& 31))) x3 h_16 hw
def wp_X0_roomsHeardIn (h : gw_H) (b : Nat) (p1 : Int32) (Q : Int32 → gw_H → Prop) : Prop :=
  (∃ n_18 : Nat, wl_X0_roomsHeardIn_6 b p1  Q n_18 ((1 : Int32) <<< (p1 &&& 31)) (0 : Int32) h)
set_option maxRecDepth 100000 in
set_option maxHeartbeats 4000000 in
theorem gc_X0_roomsHeardIn {l : Launch} {ad : Nat → Nat} {h : gw_H} {b : Nat} {p1 : Int32} {Q : Int32 → gw_H → Prop} (hb : gw_b b) (hw : wp_X0_roomsHeardIn h b p1 Q) : gw_C l yX0_roomsHeardIn cX0_roomsHeardIn 4 (some .int) 1 21 vC ad [.ref (ad (b + 1)), .int p1] h Q := by
  refine gw_entry (own := RX0) [some (.ref (ad (b + 1))), some (.int p1), none, none] pl_X0 rfl rfl (Nat.le_of_ble_eq_true rfl) rfl (fun X => ?_)
  unfold wp_X0_roomsHeardIn at hw
  refine gw_iconst dX0_roomsHeardIn_0 ic_1 ?_
  refine gw_iload_n dX0_roomsHeardIn_1 rfl rfl ?_
  refine gw_ishl dX0_roomsHeardIn_2 ?_
  refine gw_istore_n (ls' := [some (.ref (ad (b + 1))), some (.int p1), some (.int ((1 : Int32) <<< (p1 &&& 31))), none]) dX0_roomsHeardIn_3 rfl (Nat.le_of_ble_eq_true rfl) rfl ?_
  refine gw_iconst dX0_roomsHeardIn_4 ic_0 ?_
  refine gw_istore_n (ls' := [some (.ref (ad (b + 1))), some (.int p1), some (.int ((1 : Int32) <<< (p1 &&& 31))), some (.int (0 : Int32))]) dX0_roomsHeardIn_5 rfl (Nat.le_of_ble_eq_true rfl) rfl ?_
  obtain ⟨n_18, hw⟩ := hw
  exact tl_X0_roomsHeardIn_6 hb  n_18 ((1 : Int32) <<< (p1 &&& 31)) (0 : Int32) h hw
def wp_X5_copy (h : gw_H) (a1 : Nat) (n1 : Nat) (a2 : Nat) (n2 : Nat) (Q : Int32 → gw_H → Prop) : Prop :=
  ((¬ (if (Int32.ofNat n2) < (Int32.ofNat n1) then (Int32.ofNat n2) else (Int32.ofNat n1)) < 0 ∧ (if (Int32.ofNat n2) < (Int32.ofNat n1) then (Int32.ofNat n2) else (Int32.ofNat n1)).toNatClampNeg ≤ n1 ∧ (if (Int32.ofNat n2) < (Int32.ofNat n1) then (Int32.ofNat n2) else (Int32.ofNat n1)).toNatClampNeg ≤ n2) ∧ Q 0 (gw_st h a2 (va_cpy (h a1) (h a2) 0 0 (if (Int32.ofNat n2) < (Int32.ofNat n1) then (Int32.ofNat n2) else (Int32.ofNat n1)).toNatClampNeg)))
set_option maxRecDepth 100000 in
set_option maxHeartbeats 4000000 in
theorem gc_X5_copy {l : Launch} {ad : Nat → Nat} {h : gw_H} {a1 : Nat} {n1 : Nat} {a2 : Nat} {n2 : Nat} {Q : Int32 → gw_H → Prop} (hA1 : gw_Ar vC a1 n1) (hA2 : gw_Ar vC a2 n2) (hw : wp_X5_copy h a1 n1 a2 n2 Q) : gw_C l yX5_copy cX5_copy 2 none 1 60 vC ad [.ref (ad a1), .ref (ad a2)] h Q := by
  refine gw_entry (own := RX5) [some (.ref (ad a1)), some (.ref (ad a2))] pl_X5 rfl rfl (Nat.le_of_ble_eq_true rfl) rfl (fun X => ?_)
  unfold wp_X5_copy at hw
  refine gw_aload_n dX5_copy_0 rfl rfl ?_
  refine gw_iconst dX5_copy_1 ic_0 ?_
  refine gw_aload_n dX5_copy_2 rfl rfl ?_
  refine gw_iconst dX5_copy_3 ic_0 ?_
  refine gw_aload_n dX5_copy_4 rfl rfl ?_
  refine gw_alen hA1 rfl dX5_copy_5 ?_
  refine gw_aload_n dX5_copy_6 rfl rfl ?_
  refine gw_alen hA2 rfl dX5_copy_7 ?_
  refine gw_mmin lmX5_220 ⟨Nat.le_of_ble_eq_true rfl, Nat.le_of_ble_eq_true rfl⟩ (Nat.le_of_ble_eq_true rfl) dX5_copy_8 ?_
  have hc9 := hw.1
  have hw := hw.2
  refine gw_copy lmX5_238 hA1 hA2 hc9 (Nat.le_of_ble_eq_true rfl) (Nat.le_of_ble_eq_true rfl) dX5_copy_11 ?_
  exact gw_return hw rfl dX5_copy_14
def wp_X0_takeAs (h : gw_H) (b : Nat) (b2 : Nat) (Q : Int32 → gw_H → Prop) : Prop :=
  (wp_X5_copy h (b2 + 2) 8 (b + 2) 8 (fun _ h_1 => (wp_X5_copy h_1 (b2 + 3) 8 (b + 3) 8 (fun _ h_2 => (wp_X5_copy h_2 (b2 + 4) 8 (b + 4) 8 (fun _ h_3 => Q 0 (gw_up h_3 (b + 1) 3 (h_3 (b2 + 1) 3))))))))
set_option maxRecDepth 100000 in
set_option maxHeartbeats 4000000 in
theorem gc_X0_takeAs {l : Launch} {ad : Nat → Nat} {h : gw_H} {b : Nat} {b2 : Nat} {Q : Int32 → gw_H → Prop} (hb : gw_b b) (hb2 : gw_b b2) (hw : wp_X0_takeAs h b b2 Q) : gw_C l yX0_takeAs cX0_takeAs 2 none 2 81 vC ad [.ref (ad (b + 1)), .ref (ad (b2 + 1))] h Q := by
  refine gw_entry (own := RX0) [some (.ref (ad (b + 1))), some (.ref (ad (b2 + 1)))] pl_X0 rfl rfl (Nat.le_of_ble_eq_true rfl) rfl (fun X => ?_)
  unfold wp_X0_takeAs at hw
  refine gw_aload_n dX0_takeAs_0 rfl rfl ?_
  refine gw_getf (k := 0) (v := .ref (ad (b2 + 2))) (oX0 hb2) clX0 inUX0 (Nat.le_of_ble_eq_true rfl) rfl lfX0_9 rfl dX0_takeAs_1 ?_
  refine gw_aload_n dX0_takeAs_4 rfl rfl ?_
  refine gw_getf (k := 0) (v := .ref (ad (b + 2))) (oX0 hb) clX0 inUX0 (Nat.le_of_ble_eq_true rfl) rfl lfX0_9 rfl dX0_takeAs_5 ?_
  refine gw_callNv (As := [.ref (ad (b2 + 2)), .ref (ad (b + 2))]) (rest := []) rfl (gc_X5_copy (ar_2 hb2) (ar_2 hb) hw) mX5_copy lmX0_43 rfl rfl ⟨Nat.le_of_ble_eq_true rfl, Nat.le_of_ble_eq_true rfl⟩ (Nat.le_of_ble_eq_true rfl) dX0_takeAs_8 (fun h_1 hw => ?_)
  refine gw_aload_n dX0_takeAs_11 rfl rfl ?_
  refine gw_getf (k := 1) (v := .ref (ad (b2 + 3))) (oX0 hb2) clX0 inUX0 (Nat.le_of_ble_eq_true rfl) rfl lfX0_15 rfl dX0_takeAs_12 ?_
  refine gw_aload_n dX0_takeAs_15 rfl rfl ?_
  refine gw_getf (k := 1) (v := .ref (ad (b + 3))) (oX0 hb) clX0 inUX0 (Nat.le_of_ble_eq_true rfl) rfl lfX0_15 rfl dX0_takeAs_16 ?_
  refine gw_callNv (As := [.ref (ad (b2 + 3)), .ref (ad (b + 3))]) (rest := []) rfl (gc_X5_copy (ar_3 hb2) (ar_3 hb) hw) mX5_copy lmX0_43 rfl rfl ⟨Nat.le_of_ble_eq_true rfl, Nat.le_of_ble_eq_true rfl⟩ (Nat.le_of_ble_eq_true rfl) dX0_takeAs_19 (fun h_2 hw => ?_)
  refine gw_aload_n dX0_takeAs_22 rfl rfl ?_
  refine gw_getf (k := 2) (v := .ref (ad (b2 + 4))) (oX0 hb2) clX0 inUX0 (Nat.le_of_ble_eq_true rfl) rfl lfX0_18 rfl dX0_takeAs_23 ?_
  refine gw_aload_n dX0_takeAs_26 rfl rfl ?_
  refine gw_getf (k := 2) (v := .ref (ad (b + 4))) (oX0 hb) clX0 inUX0 (Nat.le_of_ble_eq_true rfl) rfl lfX0_18 rfl dX0_takeAs_27 ?_
  refine gw_callNv (As := [.ref (ad (b2 + 4)), .ref (ad (b + 4))]) (rest := []) rfl (gc_X5_copy (ar_4 hb2) (ar_4 hb) hw) mX5_copy lmX0_43 rfl rfl ⟨Nat.le_of_ble_eq_true rfl, Nat.le_of_ble_eq_true rfl⟩ (Nat.le_of_ble_eq_true rfl) dX0_takeAs_30 (fun h_3 hw => ?_)
  refine gw_aload_n dX0_takeAs_33 rfl rfl ?_
  refine gw_aload_n dX0_takeAs_34 rfl rfl ?_
  refine gw_getf (k := 3) (v := .int (h_3 (b2 + 1) 3)) (oX0 hb2) clX0 inUX0 (Nat.le_of_ble_eq_true rfl) rfl lfX0_21 rfl dX0_takeAs_35 ?_
  refine gw_putf (k := 3) (ty := .int) (oX0 hb) clX0 inUX0 tyX0_ok nmX0 (Nat.le_of_ble_eq_true rfl) rfl lfX0_21 (by decide +kernel) rfl rfl st_X0_3 dX0_takeAs_38 ?_
  exact gw_return hw rfl dX0_takeAs_41
def wk_X0_turn_18 (b : Nat) (p1 : Int32)  (Q : Int32 → gw_H → Prop) : Int32 → Int32 → gw_H → Prop :=
  fun s0 s1 h => (wp_X5_put h (b + 4) 8 s1 s0 (fun _ h_4 => (wp_X5_at h_4 (b + 4) 8 p1 (fun r_6 h_5 => Q r_6 h_5))))
set_option maxRecDepth 100000 in
set_option maxHeartbeats 4000000 in
theorem tk_X0_turn_18 {l : Launch} {ad : Nat → Nat} {X : gw_X} {b : Nat} {p1 : Int32}  {Q : Int32 → gw_H → Prop} (hb : gw_b b)  (s0 : Int32) (s1 : Int32) (h : gw_H) (hw : wk_X0_turn_18 b p1  Q s0 s1 h) : gw_G l vC ad cX0_turn RX0 2 (some .int) 2 42 Q X h 18 [some (.ref (ad (b + 1))), some (.int p1)] [.int s0, .int s1, .ref (ad (b + 4))] := by
  unfold wk_X0_turn_18 at hw
  refine gw_callNv (As := [.ref (ad (b + 4)), .int s1, .int s0]) (rest := []) rfl (gc_X5_put (ar_4 hb) hw) mX5_put lmX0_29 rfl rfl ⟨Nat.le_of_ble_eq_true rfl, Nat.le_of_ble_eq_true rfl⟩ (Nat.le_of_ble_eq_true rfl) dX0_turn_18 (fun h_4 hw => ?_)
  refine gw_aload_n dX0_turn_21 rfl rfl ?_
  refine gw_getf (k := 2) (v := .ref (ad (b + 4))) (oX0 hb) clX0 inUX0 (Nat.le_of_ble_eq_true rfl) rfl lfX0_18 rfl dX0_turn_22 ?_
  refine gw_iload_n dX0_turn_25 rfl rfl ?_
  refine gw_callNi (As := [.ref (ad (b + 4)), .int p1]) (rest := []) rfl (gc_X5_at (ar_4 hb) hw) mX5_at lmX0_36 rfl rfl ⟨Nat.le_of_ble_eq_true rfl, Nat.le_of_ble_eq_true rfl⟩ (Nat.le_of_ble_eq_true rfl) dX0_turn_26 (fun r_6 h_5 hw => ?_)
  exact gw_ireturn (ty := .int) hw rfl rfl dX0_turn_29
def wp_X0_turn (h : gw_H) (b : Nat) (p1 : Int32) (Q : Int32 → gw_H → Prop) : Prop :=
  (wp_X0_isOpen h b p1 (fun r_2 h_1 => ((r_2 = 0 → (wk_X0_turn_18 b p1  Q (1 : Int32) p1 h_1)) ∧ (¬ r_2 = 0 → (wk_X0_turn_18 b p1  Q (0 : Int32) p1 h_1)))))
set_option maxRecDepth 100000 in
set_option maxHeartbeats 4000000 in
theorem gc_X0_turn {l : Launch} {ad : Nat → Nat} {h : gw_H} {b : Nat} {p1 : Int32} {Q : Int32 → gw_H → Prop} (hb : gw_b b) (hw : wp_X0_turn h b p1 Q) : gw_C l yX0_turn cX0_turn 2 (some .int) 2 42 vC ad [.ref (ad (b + 1)), .int p1] h Q := by
  refine gw_entry (own := RX0) [some (.ref (ad (b + 1))), some (.int p1)] pl_X0 rfl rfl (Nat.le_of_ble_eq_true rfl) rfl (fun X => ?_)
  unfold wp_X0_turn at hw
  refine gw_aload_n dX0_turn_0 rfl rfl ?_
  refine gw_getf (k := 2) (v := .ref (ad (b + 4))) (oX0 hb) clX0 inUX0 (Nat.le_of_ble_eq_true rfl) rfl lfX0_18 rfl dX0_turn_1 ?_
  refine gw_iload_n dX0_turn_4 rfl rfl ?_
  refine gw_aload_n dX0_turn_5 rfl rfl ?_
  refine gw_iload_n dX0_turn_6 rfl rfl ?_
  refine gw_callVi (As := [.int p1]) (rest := [.int p1, .ref (ad (b + 4))]) rfl (gc_X0_isOpen hb hw) mX0_isOpen lmX0_40 (oX0 hb) clX0 rfl rfl ⟨Nat.le_of_ble_eq_true rfl, Nat.le_of_ble_eq_true rfl⟩ (Nat.le_of_ble_eq_true rfl) dX0_turn_7 (fun r_2 h_1 hw => ?_)
  refine gw_if_eq (tgt := 17) dX0_turn_10 (by decide) (fun c_3 => ?_) (fun c_3 => ?_)
  · have hw := hw.1 c_3
    refine gw_iconst dX0_turn_17 ic_1 ?_
    exact tk_X0_turn_18 hb  (1 : Int32) p1 h_1 hw
  · have hw := hw.2 c_3
    refine gw_iconst dX0_turn_13 ic_0 ?_
    refine gw_goto (tgt := 18) dX0_turn_14 (by decide) ?_
    exact tk_X0_turn_18 hb  (0 : Int32) p1 h_1 hw
def wp_X3_fresh (h : gw_H) (b : Nat) (p1 : Int32) (Q : Int32 → gw_H → Prop) : Prop :=
  (wp_X5_at h (b + 7) 5 p1 (fun r_2 h_1 => (wp_X5_at h_1 (b + 8) 5 p1 (fun r_4 h_3 => (wp_X5_at h_3 (b + 6) 5 p1 (fun r_6 h_5 => ((r_6 = (2 : Int32) → Q ((((2 : Int32) * r_2) + r_4) + (3 : Int32)) h_5) ∧ (¬ r_6 = (2 : Int32) → ((r_6 = (4 : Int32) → Q ((2 : Int32) * ((((2 : Int32) * r_2) + r_4) + (3 : Int32))) h_5) ∧ (¬ r_6 = (4 : Int32) → Q (((2 : Int32) * r_2) + r_4) h_5))))))))))
set_option maxRecDepth 100000 in
set_option maxHeartbeats 4000000 in
theorem gc_X3_fresh {l : Launch} {ad : Nat → Nat} {h : gw_H} {b : Nat} {p1 : Int32} {Q : Int32 → gw_H → Prop} (hb : gw_b b) (hw : wp_X3_fresh h b p1 Q) : gw_C l yX3_fresh cX3_fresh 3 (some .int) 1 21 vC ad [.ref (ad (b + 5)), .int p1] h Q := by
  refine gw_entry (own := RX3) [some (.ref (ad (b + 5))), some (.int p1), none] pl_X3 rfl rfl (Nat.le_of_ble_eq_true rfl) rfl (fun X => ?_)
  unfold wp_X3_fresh at hw
  refine gw_iconst dX3_fresh_0 ic_2 ?_
  refine gw_aload_n dX3_fresh_1 rfl rfl ?_
  refine gw_getf (k := 1) (v := .ref (ad (b + 7))) (oX3 hb) clX3 inUX3 (Nat.le_of_ble_eq_true rfl) rfl lfX3_15 rfl dX3_fresh_2 ?_
  refine gw_iload_n dX3_fresh_5 rfl rfl ?_
  refine gw_callNi (As := [.ref (ad (b + 7)), .int p1]) (rest := [.int (2 : Int32)]) rfl (gc_X5_at (ar_7 hb) hw) mX5_at lmX3_33 rfl rfl ⟨Nat.le_of_ble_eq_true rfl, Nat.le_of_ble_eq_true rfl⟩ (Nat.le_of_ble_eq_true rfl) dX3_fresh_6 (fun r_2 h_1 hw => ?_)
  refine gw_imul dX3_fresh_9 ?_
  refine gw_aload_n dX3_fresh_10 rfl rfl ?_
  refine gw_getf (k := 2) (v := .ref (ad (b + 8))) (oX3 hb) clX3 inUX3 (Nat.le_of_ble_eq_true rfl) rfl lfX3_18 rfl dX3_fresh_11 ?_
  refine gw_iload_n dX3_fresh_14 rfl rfl ?_
  refine gw_callNi (As := [.ref (ad (b + 8)), .int p1]) (rest := [.int ((2 : Int32) * r_2)]) rfl (gc_X5_at (ar_8 hb) hw) mX5_at lmX3_33 rfl rfl ⟨Nat.le_of_ble_eq_true rfl, Nat.le_of_ble_eq_true rfl⟩ (Nat.le_of_ble_eq_true rfl) dX3_fresh_15 (fun r_4 h_3 hw => ?_)
  refine gw_iadd dX3_fresh_18 ?_
  refine gw_istore_n (ls' := [some (.ref (ad (b + 5))), some (.int p1), some (.int (((2 : Int32) * r_2) + r_4))]) dX3_fresh_19 rfl (Nat.le_of_ble_eq_true rfl) rfl ?_
  refine gw_aload_n dX3_fresh_20 rfl rfl ?_
  refine gw_getf (k := 0) (v := .ref (ad (b + 6))) (oX3 hb) clX3 inUX3 (Nat.le_of_ble_eq_true rfl) rfl lfX3_9 rfl dX3_fresh_21 ?_
  refine gw_iload_n dX3_fresh_24 rfl rfl ?_
  refine gw_callNi (As := [.ref (ad (b + 6)), .int p1]) (rest := []) rfl (gc_X5_at (ar_6 hb) hw) mX5_at lmX3_33 rfl rfl ⟨Nat.le_of_ble_eq_true rfl, Nat.le_of_ble_eq_true rfl⟩ (Nat.le_of_ble_eq_true rfl) dX3_fresh_25 (fun r_6 h_5 hw => ?_)
  by_cases c_7 : r_6 = (2 : Int32)
  · have hw := hw.1 c_7
    refine gw_lsw (off := 28) (tgt := 56) dX3_fresh_28 (by decide) (by rw [c_7]; decide) (by decide) ?_
    refine gw_iload_n dX3_fresh_56 rfl rfl ?_
    refine gw_iconst dX3_fresh_57 ic_3 ?_
    refine gw_iadd dX3_fresh_58 ?_
    exact gw_ireturn (ty := .int) hw rfl rfl dX3_fresh_59
  · have hw := hw.2 c_7
    by_cases c_8 : r_6 = (4 : Int32)
    · have hw := hw.1 c_8
      refine gw_lsw (off := 32) (tgt := 60) dX3_fresh_28 (by decide) (by rw [c_8]; decide) (by decide) ?_
      refine gw_iconst dX3_fresh_60 ic_2 ?_
      refine gw_iload_n dX3_fresh_61 rfl rfl ?_
      refine gw_iconst dX3_fresh_62 ic_3 ?_
      refine gw_iadd dX3_fresh_63 ?_
      refine gw_imul dX3_fresh_64 ?_
      exact gw_ireturn (ty := .int) hw rfl rfl dX3_fresh_65
    · have hw := hw.2 c_8
      refine gw_lsw (off := 38) (tgt := 66) dX3_fresh_28 (by decide) ((lv_osw c_7 (by decide)).trans ((lv_osw c_8 (by decide)).trans rfl)) (by decide) ?_
      refine gw_iload_n dX3_fresh_66 rfl rfl ?_
      exact gw_ireturn (ty := .int) hw rfl rfl dX3_fresh_67
def wp_X3_has (h : gw_H) (b : Nat) (p1 : Int32) (Q : Int32 → gw_H → Prop) : Prop :=
  ((p1 < 0 → Q (0 : Int32) h) ∧ (¬ p1 < 0 → (((h (b + 5) 3) ≤ p1 → Q (0 : Int32) h) ∧ (¬ (h (b + 5) 3) ≤ p1 → Q (1 : Int32) h))))
set_option maxRecDepth 100000 in
set_option maxHeartbeats 4000000 in
theorem gc_X3_has {l : Launch} {ad : Nat → Nat} {h : gw_H} {b : Nat} {p1 : Int32} {Q : Int32 → gw_H → Prop} (hb : gw_b b) (hw : wp_X3_has h b p1 Q) : gw_C l yX3_has cX3_has 2 (some .boolean) 0 0 vC ad [.ref (ad (b + 5)), .int p1] h Q := by
  refine gw_entry (own := RX3) [some (.ref (ad (b + 5))), some (.int p1)] pl_X3 rfl rfl (Nat.le_of_ble_eq_true rfl) rfl (fun X => ?_)
  unfold wp_X3_has at hw
  refine gw_iload_n dX3_has_0 rfl rfl ?_
  refine gw_if_lt (tgt := 16) dX3_has_1 (by decide) (fun c_1 => ?_) (fun c_1 => ?_)
  · have hw := hw.1 c_1
    refine gw_iconst dX3_has_16 ic_0 ?_
    exact gw_ireturn (ty := .boolean) hw rfl rfl dX3_has_17
  · have hw := hw.2 c_1
    refine gw_iload_n dX3_has_4 rfl rfl ?_
    refine gw_aload_n dX3_has_5 rfl rfl ?_
    refine gw_getf (k := 3) (v := .int (h (b + 5) 3)) (oX3 hb) clX3 inUX3 (Nat.le_of_ble_eq_true rfl) rfl lfX3_21 rfl dX3_has_6 ?_
    refine gw_icmp_ge (tgt := 16) dX3_has_9 (by decide) (fun c_2 => ?_) (fun c_2 => ?_)
    · have hw := hw.1 c_2
      refine gw_iconst dX3_has_16 ic_0 ?_
      exact gw_ireturn (ty := .boolean) hw rfl rfl dX3_has_17
    · have hw := hw.2 c_2
      refine gw_iconst dX3_has_12 ic_1 ?_
      refine gw_goto (tgt := 17) dX3_has_13 (by decide) ?_
      exact gw_ireturn (ty := .boolean) hw rfl rfl dX3_has_17
def wk_X3_isStronger_16 (b : Nat) (p1 : Int32) (p2 : Int32)  (Q : Int32 → gw_H → Prop) : gw_H → Prop :=
  fun h => (wp_X3_has h b p1 (fun r_5 h_4 => (narrow .boolean (.int r_5) = .int r_5 ∧ Q r_5 h_4)))
set_option maxRecDepth 100000 in
set_option maxHeartbeats 4000000 in
theorem tk_X3_isStronger_16 {l : Launch} {ad : Nat → Nat} {X : gw_X} {b : Nat} {p1 : Int32} {p2 : Int32}  {Q : Int32 → gw_H → Prop} (hb : gw_b b)   (h : gw_H) (hw : wk_X3_isStronger_16 b p1 p2  Q h) : gw_G l vC ad cX3_isStronger RX3 4 (some .boolean) 1 21 Q X h 16 [some (.ref (ad (b + 5))), some (.int p1), some (.int p2), none] [] := by
  unfold wk_X3_isStronger_16 at hw
  refine gw_aload_n dX3_isStronger_16 rfl rfl ?_
  refine gw_iload_n dX3_isStronger_17 rfl rfl ?_
  refine gw_callVi (As := [.int p1]) (rest := []) rfl (gc_X3_has hb hw) mX3_has lmX3_37 (oX3 hb) clX3 rfl rfl ⟨Nat.le_of_ble_eq_true rfl, Nat.le_of_ble_eq_true rfl⟩ (Nat.le_of_ble_eq_true rfl) dX3_isStronger_18 (fun r_5 h_4 hw => ?_)
  exact gw_ireturn (ty := .boolean) hw.2 rfl hw.1 dX3_isStronger_21
def wp_X3_isStronger (h : gw_H) (b : Nat) (p1 : Int32) (p2 : Int32) (Q : Int32 → gw_H → Prop) : Prop :=
  (wp_X3_has h b p1 (fun r_2 h_1 => ((r_2 = 0 → (wk_X3_isStronger_16 b p1 p2  Q h_1)) ∧ (¬ r_2 = 0 → (wp_X3_has h_1 b p2 (fun r_7 h_6 => ((¬ r_7 = 0 → (wp_X5_at h_6 (b + 7) 5 p1 (fun r_10 h_9 => (wp_X5_at h_9 (b + 7) 5 p2 (fun r_12 h_11 => ((0 < (r_10 - r_12) → Q (1 : Int32) h_11) ∧ (¬ 0 < (r_10 - r_12) → ((¬ (r_10 - r_12) = 0 → Q (0 : Int32) h_11) ∧ ((r_10 - r_12) = 0 → ((p2 ≤ p1 → Q (0 : Int32) h_11) ∧ (¬ p2 ≤ p1 → Q (1 : Int32) h_11))))))))))) ∧ (r_7 = 0 → (wk_X3_isStronger_16 b p1 p2  Q h_6)))))))))
set_option maxRecDepth 100000 in
set_option maxHeartbeats 4000000 in
theorem gc_X3_isStronger {l : Launch} {ad : Nat → Nat} {h : gw_H} {b : Nat} {p1 : Int32} {p2 : Int32} {Q : Int32 → gw_H → Prop} (hb : gw_b b) (hw : wp_X3_isStronger h b p1 p2 Q) : gw_C l yX3_isStronger cX3_isStronger 4 (some .boolean) 1 21 vC ad [.ref (ad (b + 5)), .int p1, .int p2] h Q := by
  refine gw_entry (own := RX3) [some (.ref (ad (b + 5))), some (.int p1), some (.int p2), none] pl_X3 rfl rfl (Nat.le_of_ble_eq_true rfl) rfl (fun X => ?_)
  unfold wp_X3_isStronger at hw
  refine gw_aload_n dX3_isStronger_0 rfl rfl ?_
  refine gw_iload_n dX3_isStronger_1 rfl rfl ?_
  refine gw_callVi (As := [.int p1]) (rest := []) rfl (gc_X3_has hb hw) mX3_has lmX3_37 (oX3 hb) clX3 rfl rfl ⟨Nat.le_of_ble_eq_true rfl, Nat.le_of_ble_eq_true rfl⟩ (Nat.le_of_ble_eq_true rfl) dX3_isStronger_2 (fun r_2 h_1 hw => ?_)
  refine gw_if_eq (tgt := 16) dX3_isStronger_5 (by decide) (fun c_3 => ?_) (fun c_3 => ?_)
  · have hw := hw.1 c_3
    exact tk_X3_isStronger_16 hb  h_1 hw
  · have hw := hw.2 c_3
    refine gw_aload_n dX3_isStronger_8 rfl rfl ?_
    refine gw_iload_n dX3_isStronger_9 rfl rfl ?_
    refine gw_callVi (As := [.int p2]) (rest := []) rfl (gc_X3_has hb hw) mX3_has lmX3_37 (oX3 hb) clX3 rfl rfl ⟨Nat.le_of_ble_eq_true rfl, Nat.le_of_ble_eq_true rfl⟩ (Nat.le_of_ble_eq_true rfl) dX3_isStronger_10 (fun r_7 h_6 hw => ?_)
    refine gw_if_ne (tgt := 22) dX3_isStronger_13 (by decide) (fun c_8 => ?_) (fun c_8 => ?_)
    · have hw := hw.1 c_8
      refine gw_aload_n dX3_isStronger_22 rfl rfl ?_
      refine gw_getf (k := 1) (v := .ref (ad (b + 7))) (oX3 hb) clX3 inUX3 (Nat.le_of_ble_eq_true rfl) rfl lfX3_15 rfl dX3_isStronger_23 ?_
      refine gw_iload_n dX3_isStronger_26 rfl rfl ?_
      refine gw_callNi (As := [.ref (ad (b + 7)), .int p1]) (rest := []) rfl (gc_X5_at (ar_7 hb) hw) mX5_at lmX3_33 rfl rfl ⟨Nat.le_of_ble_eq_true rfl, Nat.le_of_ble_eq_true rfl⟩ (Nat.le_of_ble_eq_true rfl) dX3_isStronger_27 (fun r_10 h_9 hw => ?_)
      refine gw_aload_n dX3_isStronger_30 rfl rfl ?_
      refine gw_getf (k := 1) (v := .ref (ad (b + 7))) (oX3 hb) clX3 inUX3 (Nat.le_of_ble_eq_true rfl) rfl lfX3_15 rfl dX3_isStronger_31 ?_
      refine gw_iload_n dX3_isStronger_34 rfl rfl ?_
      refine gw_callNi (As := [.ref (ad (b + 7)), .int p2]) (rest := [.int r_10]) rfl (gc_X5_at (ar_7 hb) hw) mX5_at lmX3_33 rfl rfl ⟨Nat.le_of_ble_eq_true rfl, Nat.le_of_ble_eq_true rfl⟩ (Nat.le_of_ble_eq_true rfl) dX3_isStronger_35 (fun r_12 h_11 hw => ?_)
      refine gw_isub dX3_isStronger_38 ?_
      refine gw_istore_n (ls' := [some (.ref (ad (b + 5))), some (.int p1), some (.int p2), some (.int (r_10 - r_12))]) dX3_isStronger_39 rfl (Nat.le_of_ble_eq_true rfl) rfl ?_
      refine gw_iload_n dX3_isStronger_40 rfl rfl ?_
      refine gw_if_gt (tgt := 53) dX3_isStronger_41 (by decide) (fun c_13 => ?_) (fun c_13 => ?_)
      · have hw := hw.1 c_13
        refine gw_iconst dX3_isStronger_53 ic_1 ?_
        refine gw_goto (tgt := 58) dX3_isStronger_54 (by decide) ?_
        exact gw_ireturn (ty := .boolean) hw rfl rfl dX3_isStronger_58
      · have hw := hw.2 c_13
        refine gw_iload_n dX3_isStronger_44 rfl rfl ?_
        refine gw_if_ne (tgt := 57) dX3_isStronger_45 (by decide) (fun c_14 => ?_) (fun c_14 => ?_)
        · have hw := hw.1 c_14
          refine gw_iconst dX3_isStronger_57 ic_0 ?_
          exact gw_ireturn (ty := .boolean) hw rfl rfl dX3_isStronger_58
        · have hw := hw.2 c_14
          refine gw_iload_n dX3_isStronger_48 rfl rfl ?_
          refine gw_iload_n dX3_isStronger_49 rfl rfl ?_
          refine gw_icmp_ge (tgt := 57) dX3_isStronger_50 (by decide) (fun c_15 => ?_) (fun c_15 => ?_)
          · have hw := hw.1 c_15
            refine gw_iconst dX3_isStronger_57 ic_0 ?_
            exact gw_ireturn (ty := .boolean) hw rfl rfl dX3_isStronger_58
          · have hw := hw.2 c_15
            refine gw_iconst dX3_isStronger_53 ic_1 ?_
            refine gw_goto (tgt := 58) dX3_isStronger_54 (by decide) ?_
            exact gw_ireturn (ty := .boolean) hw rfl rfl dX3_isStronger_58
    · have hw := hw.2 c_8
      exact tk_X3_isStronger_16 hb  h_6 hw
def wp_X3_fading (h : gw_H) (b : Nat) (p1 : Int32) (p2 : Int32) (Q : Int32 → gw_H → Prop) : Prop :=
  (wp_X5_at h (b + 6) 5 p1 (fun r_2 h_1 => ((r_2 = (0 : Int32) → Q (2 : Int32) h_1) ∧ (¬ r_2 = (0 : Int32) → ((r_2 = (1 : Int32) → Q (1 : Int32) h_1) ∧ (¬ r_2 = (1 : Int32) → ((r_2 = (2 : Int32) → Q (3 : Int32) h_1) ∧ (¬ r_2 = (2 : Int32) → ((r_2 = (3 : Int32) → ((¬ (p2 - p2 / (6 : Int32) * (6 : Int32)) = 0 → Q (1 : Int32) h_1) ∧ ((p2 - p2 / (6 : Int32) * (6 : Int32)) = 0 → Q (-4 : Int32) h_1))) ∧ (¬ r_2 = (3 : Int32) → ((r_2 = (4 : Int32) → Q (6 : Int32) h_1) ∧ (¬ r_2 = (4 : Int32) → ((r_2 = (5 : Int32) → ((¬ (p2 - p2 / (2 : Int32) * (2 : Int32)) = 0 → Q (0 : Int32) h_1) ∧ ((p2 - p2 / (2 : Int32) * (2 : Int32)) = 0 → Q (1 : Int32) h_1))) ∧ (¬ r_2 = (5 : Int32) → Q (1 : Int32) h_1))))))))))))))
set_option maxRecDepth 100000 in
set_option maxHeartbeats 4000000 in
theorem gc_X3_fading {l : Launch} {ad : Nat → Nat} {h : gw_H} {b : Nat} {p1 : Int32} {p2 : Int32} {Q : Int32 → gw_H → Prop} (hb : gw_b b) (hw : wp_X3_fading h b p1 p2 Q) : gw_C l yX3_fading cX3_fading 3 (some .int) 1 21 vC ad [.ref (ad (b + 5)), .int p1, .int p2] h Q := by
  refine gw_entry (own := RX3) [some (.ref (ad (b + 5))), some (.int p1), some (.int p2)] pl_X3 rfl rfl (Nat.le_of_ble_eq_true rfl) rfl (fun X => ?_)
  unfold wp_X3_fading at hw
  refine gw_aload_n dX3_fading_0 rfl rfl ?_
  refine gw_getf (k := 0) (v := .ref (ad (b + 6))) (oX3 hb) clX3 inUX3 (Nat.le_of_ble_eq_true rfl) rfl lfX3_9 rfl dX3_fading_1 ?_
  refine gw_iload_n dX3_fading_4 rfl rfl ?_
  refine gw_callNi (As := [.ref (ad (b + 6)), .int p1]) (rest := []) rfl (gc_X5_at (ar_6 hb) hw) mX5_at lmX3_33 rfl rfl ⟨Nat.le_of_ble_eq_true rfl, Nat.le_of_ble_eq_true rfl⟩ (Nat.le_of_ble_eq_true rfl) dX3_fading_5 (fun r_2 h_1 hw => ?_)
  by_cases c_3 : r_2 = (0 : Int32)
  · have hw := hw.1 c_3
    refine gw_tin (k := (0 : Int32)) (off := 40) (tgt := 48) dX3_fading_8 c_3 (by decide) (by decide) (by decide) (by decide) ?_
    refine gw_iconst dX3_fading_48 ic_2 ?_
    exact gw_ireturn (ty := .int) hw rfl rfl dX3_fading_49
  · have hw := hw.2 c_3
    by_cases c_4 : r_2 = (1 : Int32)
    · have hw := hw.1 c_4
      refine gw_tin (k := (1 : Int32)) (off := 73) (tgt := 81) dX3_fading_8 c_4 (by decide) (by decide) (by decide) (by decide) ?_
      refine gw_iconst dX3_fading_81 ic_1 ?_
      exact gw_ireturn (ty := .int) hw rfl rfl dX3_fading_82
    · have hw := hw.2 c_4
      by_cases c_5 : r_2 = (2 : Int32)
      · have hw := hw.1 c_5
        refine gw_tin (k := (2 : Int32)) (off := 42) (tgt := 50) dX3_fading_8 c_5 (by decide) (by decide) (by decide) (by decide) ?_
        refine gw_iconst dX3_fading_50 ic_3 ?_
        exact gw_ireturn (ty := .int) hw rfl rfl dX3_fading_51
      · have hw := hw.2 c_5
        by_cases c_6 : r_2 = (3 : Int32)
        · have hw := hw.1 c_6
          refine gw_tin (k := (3 : Int32)) (off := 47) (tgt := 55) dX3_fading_8 c_6 (by decide) (by decide) (by decide) (by decide) ?_
          refine gw_iload_n dX3_fading_55 rfl rfl ?_
          refine gw_bipush dX3_fading_56 bp_6 ?_
          refine gw_irem dX3_fading_58 (by decide) ?_
          refine gw_if_ne (tgt := 67) dX3_fading_59 (by decide) (fun c_7 => ?_) (fun c_7 => ?_)
          · have hw := hw.1 c_7
            refine gw_iconst dX3_fading_67 ic_1 ?_
            exact gw_ireturn (ty := .int) hw rfl rfl dX3_fading_68
          · have hw := hw.2 c_7
            refine gw_bipush dX3_fading_62 bp_m4 ?_
            refine gw_goto (tgt := 68) dX3_fading_64 (by decide) ?_
            exact gw_ireturn (ty := .int) hw rfl rfl dX3_fading_68
        · have hw := hw.2 c_6
          by_cases c_8 : r_2 = (4 : Int32)
          · have hw := hw.1 c_8
            refine gw_tin (k := (4 : Int32)) (off := 44) (tgt := 52) dX3_fading_8 c_8 (by decide) (by decide) (by decide) (by decide) ?_
            refine gw_bipush dX3_fading_52 bp_6 ?_
            exact gw_ireturn (ty := .int) hw rfl rfl dX3_fading_54
          · have hw := hw.2 c_8
            by_cases c_9 : r_2 = (5 : Int32)
            · have hw := hw.1 c_9
              refine gw_tin (k := (5 : Int32)) (off := 61) (tgt := 69) dX3_fading_8 c_9 (by decide) (by decide) (by decide) (by decide) ?_
              refine gw_iload_n dX3_fading_69 rfl rfl ?_
              refine gw_iconst dX3_fading_70 ic_2 ?_
              refine gw_irem dX3_fading_71 (by decide) ?_
              refine gw_if_ne (tgt := 79) dX3_fading_72 (by decide) (fun c_10 => ?_) (fun c_10 => ?_)
              · have hw := hw.1 c_10
                refine gw_iconst dX3_fading_79 ic_0 ?_
                exact gw_ireturn (ty := .int) hw rfl rfl dX3_fading_80
              · have hw := hw.2 c_10
                refine gw_iconst dX3_fading_75 ic_1 ?_
                refine gw_goto (tgt := 80) dX3_fading_76 (by decide) ?_
                exact gw_ireturn (ty := .int) hw rfl rfl dX3_fading_80
            · have hw := hw.2 c_9
              refine gw_tout (tgt := 81) dX3_fading_8 (by have q0 := lv_neT c_3 (a := 0) (by decide); have q1 := lv_neT c_4 (a := 1) (by decide); have q2 := lv_neT c_5 (a := 2) (by decide); have q3 := lv_neT c_6 (a := 3) (by decide); have q4 := lv_neT c_8 (a := 4) (by decide); have q5 := lv_neT c_9 (a := 5) (by decide); omega) (by decide) ?_
              refine gw_iconst dX3_fading_81 ic_1 ?_
              exact gw_ireturn (ty := .int) hw rfl rfl dX3_fading_82
def wp_X3_takeAs (h : gw_H) (b : Nat) (b2 : Nat) (Q : Int32 → gw_H → Prop) : Prop :=
  (wp_X5_copy h (b2 + 6) 5 (b + 6) 5 (fun _ h_1 => (wp_X5_copy h_1 (b2 + 7) 5 (b + 7) 5 (fun _ h_2 => (wp_X5_copy h_2 (b2 + 8) 5 (b + 8) 5 (fun _ h_3 => Q 0 (gw_up h_3 (b + 5) 3 (h_3 (b2 + 5) 3))))))))
set_option maxRecDepth 100000 in
set_option maxHeartbeats 4000000 in
theorem gc_X3_takeAs {l : Launch} {ad : Nat → Nat} {h : gw_H} {b : Nat} {b2 : Nat} {Q : Int32 → gw_H → Prop} (hb : gw_b b) (hb2 : gw_b b2) (hw : wp_X3_takeAs h b b2 Q) : gw_C l yX3_takeAs cX3_takeAs 2 none 2 81 vC ad [.ref (ad (b + 5)), .ref (ad (b2 + 5))] h Q := by
  refine gw_entry (own := RX3) [some (.ref (ad (b + 5))), some (.ref (ad (b2 + 5)))] pl_X3 rfl rfl (Nat.le_of_ble_eq_true rfl) rfl (fun X => ?_)
  unfold wp_X3_takeAs at hw
  refine gw_aload_n dX3_takeAs_0 rfl rfl ?_
  refine gw_getf (k := 0) (v := .ref (ad (b2 + 6))) (oX3 hb2) clX3 inUX3 (Nat.le_of_ble_eq_true rfl) rfl lfX3_9 rfl dX3_takeAs_1 ?_
  refine gw_aload_n dX3_takeAs_4 rfl rfl ?_
  refine gw_getf (k := 0) (v := .ref (ad (b + 6))) (oX3 hb) clX3 inUX3 (Nat.le_of_ble_eq_true rfl) rfl lfX3_9 rfl dX3_takeAs_5 ?_
  refine gw_callNv (As := [.ref (ad (b2 + 6)), .ref (ad (b + 6))]) (rest := []) rfl (gc_X5_copy (ar_6 hb2) (ar_6 hb) hw) mX5_copy lmX3_41 rfl rfl ⟨Nat.le_of_ble_eq_true rfl, Nat.le_of_ble_eq_true rfl⟩ (Nat.le_of_ble_eq_true rfl) dX3_takeAs_8 (fun h_1 hw => ?_)
  refine gw_aload_n dX3_takeAs_11 rfl rfl ?_
  refine gw_getf (k := 1) (v := .ref (ad (b2 + 7))) (oX3 hb2) clX3 inUX3 (Nat.le_of_ble_eq_true rfl) rfl lfX3_15 rfl dX3_takeAs_12 ?_
  refine gw_aload_n dX3_takeAs_15 rfl rfl ?_
  refine gw_getf (k := 1) (v := .ref (ad (b + 7))) (oX3 hb) clX3 inUX3 (Nat.le_of_ble_eq_true rfl) rfl lfX3_15 rfl dX3_takeAs_16 ?_
  refine gw_callNv (As := [.ref (ad (b2 + 7)), .ref (ad (b + 7))]) (rest := []) rfl (gc_X5_copy (ar_7 hb2) (ar_7 hb) hw) mX5_copy lmX3_41 rfl rfl ⟨Nat.le_of_ble_eq_true rfl, Nat.le_of_ble_eq_true rfl⟩ (Nat.le_of_ble_eq_true rfl) dX3_takeAs_19 (fun h_2 hw => ?_)
  refine gw_aload_n dX3_takeAs_22 rfl rfl ?_
  refine gw_getf (k := 2) (v := .ref (ad (b2 + 8))) (oX3 hb2) clX3 inUX3 (Nat.le_of_ble_eq_true rfl) rfl lfX3_18 rfl dX3_takeAs_23 ?_
  refine gw_aload_n dX3_takeAs_26 rfl rfl ?_
  refine gw_getf (k := 2) (v := .ref (ad (b + 8))) (oX3 hb) clX3 inUX3 (Nat.le_of_ble_eq_true rfl) rfl lfX3_18 rfl dX3_takeAs_27 ?_
  refine gw_callNv (As := [.ref (ad (b2 + 8)), .ref (ad (b + 8))]) (rest := []) rfl (gc_X5_copy (ar_8 hb2) (ar_8 hb) hw) mX5_copy lmX3_41 rfl rfl ⟨Nat.le_of_ble_eq_true rfl, Nat.le_of_ble_eq_true rfl⟩ (Nat.le_of_ble_eq_true rfl) dX3_takeAs_30 (fun h_3 hw => ?_)
  refine gw_aload_n dX3_takeAs_33 rfl rfl ?_
  refine gw_aload_n dX3_takeAs_34 rfl rfl ?_
  refine gw_getf (k := 3) (v := .int (h_3 (b2 + 5) 3)) (oX3 hb2) clX3 inUX3 (Nat.le_of_ble_eq_true rfl) rfl lfX3_21 rfl dX3_takeAs_35 ?_
  refine gw_putf (k := 3) (ty := .int) (oX3 hb) clX3 inUX3 tyX3_ok nmX3 (Nat.le_of_ble_eq_true rfl) rfl lfX3_21 (by decide +kernel) rfl rfl st_X3_3 dX3_takeAs_38 ?_
  exact gw_return hw rfl dX3_takeAs_41
def wp_X3_isFull (h : gw_H) (b : Nat) (Q : Int32 → gw_H → Prop) : Prop :=
  (((h (b + 5) 3) < (5 : Int32) → Q (0 : Int32) h) ∧ (¬ (h (b + 5) 3) < (5 : Int32) → Q (1 : Int32) h))
set_option maxRecDepth 100000 in
set_option maxHeartbeats 4000000 in
theorem gc_X3_isFull {l : Launch} {ad : Nat → Nat} {h : gw_H} {b : Nat} {Q : Int32 → gw_H → Prop} (hb : gw_b b) (hw : wp_X3_isFull h b Q) : gw_C l yX3_isFull cX3_isFull 1 (some .boolean) 0 0 vC ad [.ref (ad (b + 5))] h Q := by
  refine gw_entry (own := RX3) [some (.ref (ad (b + 5)))] pl_X3 rfl rfl (Nat.le_of_ble_eq_true rfl) rfl (fun X => ?_)
  unfold wp_X3_isFull at hw
  refine gw_aload_n dX3_isFull_0 rfl rfl ?_
  refine gw_getf (k := 3) (v := .int (h (b + 5) 3)) (oX3 hb) clX3 inUX3 (Nat.le_of_ble_eq_true rfl) rfl lfX3_21 rfl dX3_isFull_1 ?_
  refine gw_iconst dX3_isFull_4 ic_5 ?_
  refine gw_icmp_lt (tgt := 12) dX3_isFull_5 (by decide) (fun c_1 => ?_) (fun c_1 => ?_)
  · have hw := hw.1 c_1
    refine gw_iconst dX3_isFull_12 ic_0 ?_
    exact gw_ireturn (ty := .boolean) hw rfl rfl dX3_isFull_13
  · have hw := hw.2 c_1
    refine gw_iconst dX3_isFull_8 ic_1 ?_
    refine gw_goto (tgt := 13) dX3_isFull_9 (by decide) ?_
    exact gw_ireturn (ty := .boolean) hw rfl rfl dX3_isFull_13
def wp_X3_add (h : gw_H) (b : Nat) (p1 : Int32) (p2 : Int32) (p3 : Int32) (Q : Int32 → gw_H → Prop) : Prop :=
  (wp_X3_isFull h b (fun r_2 h_1 => ((¬ r_2 = 0 → Q (0 : Int32) h_1) ∧ (r_2 = 0 → (((1 : Int32) ≤ p3 → (wp_X5_put h_1 (b + 6) 5 (h_1 (b + 5) 3) p1 (fun _ h_5 => (wp_X5_put h_5 (b + 7) 5 (h_5 (b + 5) 3) p2 (fun _ h_6 => (wp_X5_put h_6 (b + 8) 5 (h_6 (b + 5) 3) p3 (fun _ h_7 => Q (1 : Int32) (gw_up h_7 (b + 5) 3 ((h_7 (b + 5) 3) + (1 : Int32)))))))))) ∧ (¬ (1 : Int32) ≤ p3 → Q (0 : Int32) h_1))))))
set_option maxRecDepth 100000 in
set_option maxHeartbeats 4000000 in
theorem gc_X3_add {l : Launch} {ad : Nat → Nat} {h : gw_H} {b : Nat} {p1 : Int32} {p2 : Int32} {p3 : Int32} {Q : Int32 → gw_H → Prop} (hb : gw_b b) (hw : wp_X3_add h b p1 p2 p3 Q) : gw_C l yX3_add cX3_add 4 (some .boolean) 1 22 vC ad [.ref (ad (b + 5)), .int p1, .int p2, .int p3] h Q := by
  refine gw_entry (own := RX3) [some (.ref (ad (b + 5))), some (.int p1), some (.int p2), some (.int p3)] pl_X3 rfl rfl (Nat.le_of_ble_eq_true rfl) rfl (fun X => ?_)
  unfold wp_X3_add at hw
  refine gw_aload_n dX3_add_0 rfl rfl ?_
  refine gw_callVi (As := []) (rest := []) rfl (gc_X3_isFull hb hw) mX3_isFull lmX3_25 (oX3 hb) clX3 rfl rfl ⟨Nat.le_of_ble_eq_true rfl, Nat.le_of_ble_eq_true rfl⟩ (Nat.le_of_ble_eq_true rfl) dX3_add_1 (fun r_2 h_1 hw => ?_)
  refine gw_if_ne (tgt := 12) dX3_add_4 (by decide) (fun c_3 => ?_) (fun c_3 => ?_)
  · have hw := hw.1 c_3
    refine gw_iconst dX3_add_12 ic_0 ?_
    exact gw_ireturn (ty := .boolean) hw rfl rfl dX3_add_13
  · have hw := hw.2 c_3
    refine gw_iload_n dX3_add_7 rfl rfl ?_
    refine gw_iconst dX3_add_8 ic_1 ?_
    refine gw_icmp_ge (tgt := 14) dX3_add_9 (by decide) (fun c_4 => ?_) (fun c_4 => ?_)
    · have hw := hw.1 c_4
      refine gw_aload_n dX3_add_14 rfl rfl ?_
      refine gw_getf (k := 0) (v := .ref (ad (b + 6))) (oX3 hb) clX3 inUX3 (Nat.le_of_ble_eq_true rfl) rfl lfX3_9 rfl dX3_add_15 ?_
      refine gw_aload_n dX3_add_18 rfl rfl ?_
      refine gw_getf (k := 3) (v := .int (h_1 (b + 5) 3)) (oX3 hb) clX3 inUX3 (Nat.le_of_ble_eq_true rfl) rfl lfX3_21 rfl dX3_add_19 ?_
      refine gw_iload_n dX3_add_22 rfl rfl ?_
      refine gw_callNv (As := [.ref (ad (b + 6)), .int (h_1 (b + 5) 3), .int p1]) (rest := []) rfl (gc_X5_put (ar_6 hb) hw) mX5_put lmX3_29 rfl rfl ⟨Nat.le_of_ble_eq_true rfl, Nat.le_of_ble_eq_true rfl⟩ (Nat.le_of_ble_eq_true rfl) dX3_add_23 (fun h_5 hw => ?_)
      refine gw_aload_n dX3_add_26 rfl rfl ?_
      refine gw_getf (k := 1) (v := .ref (ad (b + 7))) (oX3 hb) clX3 inUX3 (Nat.le_of_ble_eq_true rfl) rfl lfX3_15 rfl dX3_add_27 ?_
      refine gw_aload_n dX3_add_30 rfl rfl ?_
      refine gw_getf (k := 3) (v := .int (h_5 (b + 5) 3)) (oX3 hb) clX3 inUX3 (Nat.le_of_ble_eq_true rfl) rfl lfX3_21 rfl dX3_add_31 ?_
      refine gw_iload_n dX3_add_34 rfl rfl ?_
      refine gw_callNv (As := [.ref (ad (b + 7)), .int (h_5 (b + 5) 3), .int p2]) (rest := []) rfl (gc_X5_put (ar_7 hb) hw) mX5_put lmX3_29 rfl rfl ⟨Nat.le_of_ble_eq_true rfl, Nat.le_of_ble_eq_true rfl⟩ (Nat.le_of_ble_eq_true rfl) dX3_add_35 (fun h_6 hw => ?_)
      refine gw_aload_n dX3_add_38 rfl rfl ?_
      refine gw_getf (k := 2) (v := .ref (ad (b + 8))) (oX3 hb) clX3 inUX3 (Nat.le_of_ble_eq_true rfl) rfl lfX3_18 rfl dX3_add_39 ?_
      refine gw_aload_n dX3_add_42 rfl rfl ?_
      refine gw_getf (k := 3) (v := .int (h_6 (b + 5) 3)) (oX3 hb) clX3 inUX3 (Nat.le_of_ble_eq_true rfl) rfl lfX3_21 rfl dX3_add_43 ?_
      refine gw_iload_n dX3_add_46 rfl rfl ?_
      refine gw_callNv (As := [.ref (ad (b + 8)), .int (h_6 (b + 5) 3), .int p3]) (rest := []) rfl (gc_X5_put (ar_8 hb) hw) mX5_put lmX3_29 rfl rfl ⟨Nat.le_of_ble_eq_true rfl, Nat.le_of_ble_eq_true rfl⟩ (Nat.le_of_ble_eq_true rfl) dX3_add_47 (fun h_7 hw => ?_)
      refine gw_aload_n dX3_add_50 rfl rfl ?_
      refine gw_dup dX3_add_51 rfl ?_
      refine gw_getf (k := 3) (v := .int (h_7 (b + 5) 3)) (oX3 hb) clX3 inUX3 (Nat.le_of_ble_eq_true rfl) rfl lfX3_21 rfl dX3_add_52 ?_
      refine gw_iconst dX3_add_55 ic_1 ?_
      refine gw_iadd dX3_add_56 ?_
      refine gw_putf (k := 3) (ty := .int) (oX3 hb) clX3 inUX3 tyX3_ok nmX3 (Nat.le_of_ble_eq_true rfl) rfl lfX3_21 (by decide +kernel) rfl rfl st_X3_3 dX3_add_57 ?_
      refine gw_iconst dX3_add_60 ic_1 ?_
      exact gw_ireturn (ty := .boolean) hw rfl rfl dX3_add_61
    · have hw := hw.2 c_4
      refine gw_iconst dX3_add_12 ic_0 ?_
      exact gw_ireturn (ty := .boolean) hw rfl rfl dX3_add_13
def wp_X4_add (h : gw_H) (p1 : Int32) (Q : Int32 → gw_H → Prop) : Prop :=
  (wp_X5_put h (71) 96 (h 70 1) p1 (fun _ h_1 => Q 0 (gw_up h_1 70 1 ((h_1 70 1) + (1 : Int32)))))
set_option maxRecDepth 100000 in
set_option maxHeartbeats 4000000 in
theorem gc_X4_add {l : Launch} {ad : Nat → Nat} {h : gw_H} {p1 : Int32} {Q : Int32 → gw_H → Prop}  (hw : wp_X4_add h p1 Q) : gw_C l yX4_add cX4_add 2 none 1 22 vC ad [.ref (ad 70), .int p1] h Q := by
  refine gw_entry (own := RX4) [some (.ref (ad 70)), some (.int p1)] pl_X4 rfl rfl (Nat.le_of_ble_eq_true rfl) rfl (fun X => ?_)
  unfold wp_X4_add at hw
  refine gw_aload_n dX4_add_0 rfl rfl ?_
  refine gw_getf (k := 0) (v := .ref (ad 71)) oX4 clX4 inUX4 (Nat.le_of_ble_eq_true rfl) rfl lfX4_9 rfl dX4_add_1 ?_
  refine gw_aload_n dX4_add_4 rfl rfl ?_
  refine gw_getf (k := 1) (v := .int (h 70 1)) oX4 clX4 inUX4 (Nat.le_of_ble_eq_true rfl) rfl lfX4_15 rfl dX4_add_5 ?_
  refine gw_iload_n dX4_add_8 rfl rfl ?_
  refine gw_callNv (As := [.ref (ad 71), .int (h 70 1), .int p1]) (rest := []) rfl (gc_X5_put at_71 hw) mX5_put lmX4_19 rfl rfl ⟨Nat.le_of_ble_eq_true rfl, Nat.le_of_ble_eq_true rfl⟩ (Nat.le_of_ble_eq_true rfl) dX4_add_9 (fun h_1 hw => ?_)
  refine gw_aload_n dX4_add_12 rfl rfl ?_
  refine gw_dup dX4_add_13 rfl ?_
  refine gw_getf (k := 1) (v := .int (h_1 70 1)) oX4 clX4 inUX4 (Nat.le_of_ble_eq_true rfl) rfl lfX4_15 rfl dX4_add_14 ?_
  refine gw_iconst dX4_add_17 ic_1 ?_
  refine gw_iadd dX4_add_18 ?_
  refine gw_putf (k := 1) (ty := .int) oX4 clX4 inUX4 tyX4_ok nmX4 (Nat.le_of_ble_eq_true rfl) rfl lfX4_15 (by decide +kernel) rfl rfl st_X4_1 dX4_add_19 ?_
  exact gw_return hw rfl dX4_add_22
def wp_X4_sign (h : gw_H) (p1 : Int32) (Q : Int32 → gw_H → Prop) : Prop :=
  ((p1 < 0 → Q (-1 : Int32) h) ∧ (¬ p1 < 0 → (((h 70 1) ≤ p1 → Q (-1 : Int32) h) ∧ (¬ (h 70 1) ≤ p1 → (wp_X5_at h (71) 96 p1 (fun r_4 h_3 => Q r_4 h_3))))))
set_option maxRecDepth 100000 in
set_option maxHeartbeats 4000000 in
theorem gc_X4_sign {l : Launch} {ad : Nat → Nat} {h : gw_H} {p1 : Int32} {Q : Int32 → gw_H → Prop}  (hw : wp_X4_sign h p1 Q) : gw_C l yX4_sign cX4_sign 2 (some .int) 1 21 vC ad [.ref (ad 70), .int p1] h Q := by
  refine gw_entry (own := RX4) [some (.ref (ad 70)), some (.int p1)] pl_X4 rfl rfl (Nat.le_of_ble_eq_true rfl) rfl (fun X => ?_)
  unfold wp_X4_sign at hw
  refine gw_iload_n dX4_sign_0 rfl rfl ?_
  refine gw_if_lt (tgt := 23) dX4_sign_1 (by decide) (fun c_1 => ?_) (fun c_1 => ?_)
  · have hw := hw.1 c_1
    refine gw_iconst dX4_sign_23 ic_m1 ?_
    exact gw_ireturn (ty := .int) hw rfl rfl dX4_sign_24
  · have hw := hw.2 c_1
    refine gw_iload_n dX4_sign_4 rfl rfl ?_
    refine gw_aload_n dX4_sign_5 rfl rfl ?_
    refine gw_getf (k := 1) (v := .int (h 70 1)) oX4 clX4 inUX4 (Nat.le_of_ble_eq_true rfl) rfl lfX4_15 rfl dX4_sign_6 ?_
    refine gw_icmp_ge (tgt := 23) dX4_sign_9 (by decide) (fun c_2 => ?_) (fun c_2 => ?_)
    · have hw := hw.1 c_2
      refine gw_iconst dX4_sign_23 ic_m1 ?_
      exact gw_ireturn (ty := .int) hw rfl rfl dX4_sign_24
    · have hw := hw.2 c_2
      refine gw_aload_n dX4_sign_12 rfl rfl ?_
      refine gw_getf (k := 0) (v := .ref (ad 71)) oX4 clX4 inUX4 (Nat.le_of_ble_eq_true rfl) rfl lfX4_9 rfl dX4_sign_13 ?_
      refine gw_iload_n dX4_sign_16 rfl rfl ?_
      refine gw_callNi (As := [.ref (ad 71), .int p1]) (rest := []) rfl (gc_X5_at at_71 hw) mX5_at lmX4_23 rfl rfl ⟨Nat.le_of_ble_eq_true rfl, Nat.le_of_ble_eq_true rfl⟩ (Nat.le_of_ble_eq_true rfl) dX4_sign_17 (fun r_4 h_3 hw => ?_)
      refine gw_goto (tgt := 24) dX4_sign_20 (by decide) ?_
      exact gw_ireturn (ty := .int) hw rfl rfl dX4_sign_24
def wp_X4_digit (h : gw_H) (p1 : Int32) (Q : Int32 → gw_H → Prop) : Prop :=
  (wp_X4_sign h p1 (fun r_2 h_1 => ((r_2 < (48 : Int32) → Q (-9 : Int32) h_1) ∧ (¬ r_2 < (48 : Int32) → (((57 : Int32) < r_2 → Q (-9 : Int32) h_1) ∧ (¬ (57 : Int32) < r_2 → Q (r_2 - (48 : Int32)) h_1))))))
set_option maxRecDepth 100000 in
set_option maxHeartbeats 4000000 in
theorem gc_X4_digit {l : Launch} {ad : Nat → Nat} {h : gw_H} {p1 : Int32} {Q : Int32 → gw_H → Prop}  (hw : wp_X4_digit h p1 Q) : gw_C l yX4_digit cX4_digit 3 (some .int) 2 42 vC ad [.ref (ad 70), .int p1] h Q := by
  refine gw_entry (own := RX4) [some (.ref (ad 70)), some (.int p1), none] pl_X4 rfl rfl (Nat.le_of_ble_eq_true rfl) rfl (fun X => ?_)
  unfold wp_X4_digit at hw
  refine gw_aload_n dX4_digit_0 rfl rfl ?_
  refine gw_iload_n dX4_digit_1 rfl rfl ?_
  refine gw_callVi (As := [.int p1]) (rest := []) rfl (gc_X4_sign  hw) mX4_sign lmX4_27 oX4 clX4 rfl rfl ⟨Nat.le_of_ble_eq_true rfl, Nat.le_of_ble_eq_true rfl⟩ (Nat.le_of_ble_eq_true rfl) dX4_digit_2 (fun r_2 h_1 hw => ?_)
  refine gw_istore_n (ls' := [some (.ref (ad 70)), some (.int p1), some (.int r_2)]) dX4_digit_5 rfl (Nat.le_of_ble_eq_true rfl) rfl ?_
  refine gw_iload_n dX4_digit_6 rfl rfl ?_
  refine gw_bipush dX4_digit_7 bp_48 ?_
  refine gw_icmp_lt (tgt := 25) dX4_digit_9 (by decide) (fun c_3 => ?_) (fun c_3 => ?_)
  · have hw := hw.1 c_3
    refine gw_bipush dX4_digit_25 bp_m9 ?_
    exact gw_ireturn (ty := .int) hw rfl rfl dX4_digit_27
  · have hw := hw.2 c_3
    refine gw_iload_n dX4_digit_12 rfl rfl ?_
    refine gw_bipush dX4_digit_13 bp_57 ?_
    refine gw_icmp_gt (tgt := 25) dX4_digit_15 (by decide) (fun c_4 => ?_) (fun c_4 => ?_)
    · have hw := hw.1 c_4
      refine gw_bipush dX4_digit_25 bp_m9 ?_
      exact gw_ireturn (ty := .int) hw rfl rfl dX4_digit_27
    · have hw := hw.2 c_4
      refine gw_iload_n dX4_digit_18 rfl rfl ?_
      refine gw_bipush dX4_digit_19 bp_48 ?_
      refine gw_isub dX4_digit_21 ?_
      refine gw_goto (tgt := 27) dX4_digit_22 (by decide) ?_
      exact gw_ireturn (ty := .int) hw rfl rfl dX4_digit_27
def wp_X4_isDigit (h : gw_H) (p1 : Int32) (Q : Int32 → gw_H → Prop) : Prop :=
  (wp_X4_digit h p1 (fun r_2 h_1 => ((r_2 = (-9 : Int32) → Q (0 : Int32) h_1) ∧ (¬ r_2 = (-9 : Int32) → Q (1 : Int32) h_1))))
set_option maxRecDepth 100000 in
set_option maxHeartbeats 4000000 in
theorem gc_X4_isDigit {l : Launch} {ad : Nat → Nat} {h : gw_H} {p1 : Int32} {Q : Int32 → gw_H → Prop}  (hw : wp_X4_isDigit h p1 Q) : gw_C l yX4_isDigit cX4_isDigit 2 (some .boolean) 3 64 vC ad [.ref (ad 70), .int p1] h Q := by
  refine gw_entry (own := RX4) [some (.ref (ad 70)), some (.int p1)] pl_X4 rfl rfl (Nat.le_of_ble_eq_true rfl) rfl (fun X => ?_)
  unfold wp_X4_isDigit at hw
  refine gw_aload_n dX4_isDigit_0 rfl rfl ?_
  refine gw_iload_n dX4_isDigit_1 rfl rfl ?_
  refine gw_callVi (As := [.int p1]) (rest := []) rfl (gc_X4_digit  hw) mX4_digit lmX4_31 oX4 clX4 rfl rfl ⟨Nat.le_of_ble_eq_true rfl, Nat.le_of_ble_eq_true rfl⟩ (Nat.le_of_ble_eq_true rfl) dX4_isDigit_2 (fun r_2 h_1 hw => ?_)
  refine gw_bipush dX4_isDigit_5 bp_m9 ?_
  refine gw_icmp_eq (tgt := 14) dX4_isDigit_7 (by decide) (fun c_3 => ?_) (fun c_3 => ?_)
  · have hw := hw.1 c_3
    refine gw_iconst dX4_isDigit_14 ic_0 ?_
    exact gw_ireturn (ty := .boolean) hw rfl rfl dX4_isDigit_15
  · have hw := hw.2 c_3
    refine gw_iconst dX4_isDigit_10 ic_1 ?_
    refine gw_goto (tgt := 15) dX4_isDigit_11 (by decide) ?_
    exact gw_ireturn (ty := .boolean) hw rfl rfl dX4_isDigit_15
def wp_X4_kind (h : gw_H) (p1 : Int32) (Q : Int32 → gw_H → Prop) : Prop :=
  (wp_X4_sign h (p1 + (1 : Int32)) (fun r_2 h_1 => ((0 ≤ r_2 → (wp_X4_sign h_1 p1 (fun r_5 h_4 => ((¬ r_5 = (115 : Int32) → (wp_J0_indexOf_0f7a4 h_4 1 ((r_2.toUInt32 % 65536).toInt32) (fun r_8 h_7 => Q r_8 h_7))) ∧ (r_5 = (115 : Int32) → (wp_J0_indexOf_0f7a4 h_4 0 ((r_2.toUInt32 % 65536).toInt32) (fun r_10 h_9 => Q r_10 h_9))))))) ∧ (¬ 0 ≤ r_2 → Q (-1 : Int32) h_1))))
set_option maxRecDepth 100000 in
set_option maxHeartbeats 4000000 in
theorem gc_X4_kind {l : Launch} {ad : Nat → Nat} {h : gw_H} {p1 : Int32} {Q : Int32 → gw_H → Prop}  (hw : wp_X4_kind h p1 Q) : gw_C l yX4_kind cX4_kind 3 (some .int) 4 91 vC ad [.ref (ad 70), .int p1] h Q := by
  refine gw_entry (own := RX4) [some (.ref (ad 70)), some (.int p1), none] pl_X4 rfl rfl (Nat.le_of_ble_eq_true rfl) rfl (fun X => ?_)
  unfold wp_X4_kind at hw
  refine gw_aload_n dX4_kind_0 rfl rfl ?_
  refine gw_iload_n dX4_kind_1 rfl rfl ?_
  refine gw_iconst dX4_kind_2 ic_1 ?_
  refine gw_iadd dX4_kind_3 ?_
  refine gw_callVi (As := [.int (p1 + (1 : Int32))]) (rest := []) rfl (gc_X4_sign  hw) mX4_sign lmX4_27 oX4 clX4 rfl rfl ⟨Nat.le_of_ble_eq_true rfl, Nat.le_of_ble_eq_true rfl⟩ (Nat.le_of_ble_eq_true rfl) dX4_kind_4 (fun r_2 h_1 hw => ?_)
  refine gw_istore_n (ls' := [some (.ref (ad 70)), some (.int p1), some (.int r_2)]) dX4_kind_7 rfl (Nat.le_of_ble_eq_true rfl) rfl ?_
  refine gw_iload_n dX4_kind_8 rfl rfl ?_
  refine gw_if_ge (tgt := 14) dX4_kind_9 (by decide) (fun c_3 => ?_) (fun c_3 => ?_)
  · have hw := hw.1 c_3
    refine gw_aload_n dX4_kind_14 rfl rfl ?_
    refine gw_iload_n dX4_kind_15 rfl rfl ?_
    refine gw_callVi (As := [.int p1]) (rest := []) rfl (gc_X4_sign  hw) mX4_sign lmX4_27 oX4 clX4 rfl rfl ⟨Nat.le_of_ble_eq_true rfl, Nat.le_of_ble_eq_true rfl⟩ (Nat.le_of_ble_eq_true rfl) dX4_kind_16 (fun r_5 h_4 hw => ?_)
    refine gw_bipush dX4_kind_19 bp_115 ?_
    refine gw_icmp_ne (tgt := 29) dX4_kind_21 (by decide) (fun c_6 => ?_) (fun c_6 => ?_)
    · have hw := hw.1 c_6
      refine gw_ldcS1 rfl dX4_kind_29 ?_
      refine gw_iload_n dX4_kind_31 rfl rfl ?_
      refine gw_i2c dX4_kind_32 rfl ?_
      refine gw_callTi (i := 1) (As := [.int (r_2.toUInt32 % 65536).toInt32]) (rest := []) rfl (gc_J0_indexOf_0f7a4 (by decide) hw) mJ0_indexOf_0f7a4 lmX4_38 (by decide) rfl rfl rfl ⟨Nat.le_of_ble_eq_true rfl, Nat.le_of_ble_eq_true rfl⟩ (Nat.le_of_ble_eq_true rfl) dX4_kind_33 (fun r_8 h_7 hw => ?_)
      exact gw_ireturn (ty := .int) hw rfl rfl dX4_kind_36
    · have hw := hw.2 c_6
      refine gw_ldcS0 rfl dX4_kind_24 ?_
      refine gw_goto (tgt := 31) dX4_kind_26 (by decide) ?_
      refine gw_iload_n dX4_kind_31 rfl rfl ?_
      refine gw_i2c dX4_kind_32 rfl ?_
      refine gw_callTi (i := 0) (As := [.int (r_2.toUInt32 % 65536).toInt32]) (rest := []) rfl (gc_J0_indexOf_0f7a4 (by decide) hw) mJ0_indexOf_0f7a4 lmX4_38 (by decide) rfl rfl rfl ⟨Nat.le_of_ble_eq_true rfl, Nat.le_of_ble_eq_true rfl⟩ (Nat.le_of_ble_eq_true rfl) dX4_kind_33 (fun r_10 h_9 hw => ?_)
      exact gw_ireturn (ty := .int) hw rfl rfl dX4_kind_36
  · have hw := hw.2 c_3
    refine gw_iconst dX4_kind_12 ic_m1 ?_
    exact gw_ireturn (ty := .int) hw rfl rfl dX4_kind_13
def wk_X4_behindStatement_116 (p1 : Int32)  (Q : Int32 → gw_H → Prop) : Int32 → Int32 → Int32 → gw_H → Prop :=
  fun x2 x3 x4 h => ((x4 < x3 → Q ((-1 : Int32) - x2) h) ∧ (¬ x4 < x3 → (wp_X4_sign h x2 (fun r_7 h_6 => ((¬ r_7 = (59 : Int32) → Q ((-1 : Int32) - x2) h_6) ∧ (r_7 = (59 : Int32) → Q (x2 + (1 : Int32)) h_6))))))
set_option maxRecDepth 100000 in
set_option maxHeartbeats 4000000 in
theorem tk_X4_behindStatement_116 {l : Launch} {ad : Nat → Nat} {X : gw_X} {p1 : Int32}  {Q : Int32 → gw_H → Prop}   (x2 : Int32) (x3 : Int32) (x4 : Int32) (h : gw_H) (hw : wk_X4_behindStatement_116 p1  Q x2 x3 x4 h) : gw_G l vC ad cX4_behindStatement RX4 5 (some .int) 5 113 Q X h 116 [some (.ref (ad 70)), some (.int p1), some (.int x2), some (.int x3), some (.int x4)] [] := by
  unfold wk_X4_behindStatement_116 at hw
  refine gw_iload dX4_behindStatement_116 rfl ?_
  refine gw_iload_n dX4_behindStatement_118 rfl rfl ?_
  refine gw_icmp_lt (tgt := 138) dX4_behindStatement_119 (by decide) (fun c_5 => ?_) (fun c_5 => ?_)
  · have hw := hw.1 c_5
    refine gw_iconst dX4_behindStatement_138 ic_m1 ?_
    refine gw_iload_n dX4_behindStatement_139 rfl rfl ?_
    refine gw_isub dX4_behindStatement_140 ?_
    exact gw_ireturn (ty := .int) hw rfl rfl dX4_behindStatement_141
  · have hw := hw.2 c_5
    refine gw_aload_n dX4_behindStatement_122 rfl rfl ?_
    refine gw_iload_n dX4_behindStatement_123 rfl rfl ?_
    refine gw_callVi (As := [.int x2]) (rest := []) rfl (gc_X4_sign  hw) mX4_sign lmX4_27 oX4 clX4 rfl rfl ⟨Nat.le_of_ble_eq_true rfl, Nat.le_of_ble_eq_true rfl⟩ (Nat.le_of_ble_eq_true rfl) dX4_behindStatement_124 (fun r_7 h_6 hw => ?_)
    refine gw_bipush dX4_behindStatement_127 bp_59 ?_
    refine gw_icmp_ne (tgt := 138) dX4_behindStatement_129 (by decide) (fun c_8 => ?_) (fun c_8 => ?_)
    · have hw := hw.1 c_8
      refine gw_iconst dX4_behindStatement_138 ic_m1 ?_
      refine gw_iload_n dX4_behindStatement_139 rfl rfl ?_
      refine gw_isub dX4_behindStatement_140 ?_
      exact gw_ireturn (ty := .int) hw rfl rfl dX4_behindStatement_141
    · have hw := hw.2 c_8
      refine gw_iload_n dX4_behindStatement_132 rfl rfl ?_
      refine gw_iconst dX4_behindStatement_133 ic_1 ?_
      refine gw_iadd dX4_behindStatement_134 ?_
      refine gw_goto (tgt := 141) dX4_behindStatement_135 (by decide) ?_
      exact gw_ireturn (ty := .int) hw rfl rfl dX4_behindStatement_141
def wl_X4_behindStatement_93 (p1 : Int32)  (Q : Int32 → gw_H → Prop) : Nat → Int32 → Int32 → Int32 → gw_H → Prop
  | 0 => fun _ _ _ _ => False
  | n + 1 => fun x2 x3 x4 h => (((2 : Int32) ≤ x4 → (wk_X4_behindStatement_116 p1  Q x2 x3 x4 h)) ∧ (¬ (2 : Int32) ≤ x4 → (wp_X4_isDigit h x2 (fun r_10 h_9 => ((r_10 = 0 → (wk_X4_behindStatement_116 p1  Q x2 x3 x4 h_9)) ∧ (¬ r_10 = 0 → ((wl_X4_behindStatement_93 p1  Q n) (x2 + (1 : Int32)) x3 (x4 + (1 : Int32)) h_9)))))))
set_option maxRecDepth 100000 in
set_option maxHeartbeats 4000000 in
theorem tl_X4_behindStatement_93 {l : Launch} {ad : Nat → Nat} {X : gw_X} {p1 : Int32}  {Q : Int32 → gw_H → Prop}   : ∀ (n : Nat) (x2 : Int32) (x3 : Int32) (x4 : Int32) (h : gw_H), wl_X4_behindStatement_93 p1  Q n x2 x3 x4 h → gw_G l vC ad cX4_behindStatement RX4 5 (some .int) 5 113 Q X h 93 [some (.ref (ad 70)), some (.int p1), some (.int x2), some (.int x3), some (.int x4)] [] := by
  intro n
  induction n with
  | zero => intro x2 x3 x4 h hw; exact hw.elim
  | succ n ih =>
    intro x2 x3 x4 h hw
    unfold wl_X4_behindStatement_93 at hw
    refine gw_iload dX4_behindStatement_93 rfl ?_
    refine gw_iconst dX4_behindStatement_95 ic_2 ?_
    refine gw_icmp_ge (tgt := 116) dX4_behindStatement_96 (by decide) (fun c_4 => ?_) (fun c_4 => ?_)
    · have hw := hw.1 c_4
      exact tk_X4_behindStatement_116   x2 x3 x4 h hw
    · have hw := hw.2 c_4
      refine gw_aload_n dX4_behindStatement_99 rfl rfl ?_
      refine gw_iload_n dX4_behindStatement_100 rfl rfl ?_
      refine gw_callVi (As := [.int x2]) (rest := []) rfl (gc_X4_isDigit  hw) mX4_isDigit lmX4_49 oX4 clX4 rfl rfl ⟨Nat.le_of_ble_eq_true rfl, Nat.le_of_ble_eq_true rfl⟩ (Nat.le_of_ble_eq_true rfl) dX4_behindStatement_101 (fun r_10 h_9 hw => ?_)
      refine gw_if_eq (tgt := 116) dX4_behindStatement_104 (by decide) (fun c_11 => ?_) (fun c_11 => ?_)
      · have hw := hw.1 c_11
        exact tk_X4_behindStatement_116   x2 x3 x4 h_9 hw
      · have hw := hw.2 c_11
        refine gw_iinc (ls' := [some (.ref (ad 70)), some (.int p1), some (.int x2), some (.int x3), some (.int (x4 + (1 : Int32)))]) dX4_behindStatement_107 rfl (congrArg (fun z => x4 + z) ic_1) (Nat.le_of_ble_eq_true rfl) rfl ?_
        refine gw_iinc (ls' := [some (.ref (ad 70)), some (.int p1), some (.int (x2 + (1 : Int32))), some (.int x3), some (.int (x4 + (1 : Int32)))]) dX4_behindStatement_110 rfl (congrArg (fun z => x2 + z) ic_1) (Nat.le_of_ble_eq_true rfl) rfl ?_
        refine gw_goto (tgt := 93) dX4_behindStatement_113 (by decide) ?_
        exact ih (x2 + (1 : Int32)) x3 (x4 + (1 : Int32)) h_9 hw
def wk_X4_behindStatement_90 (p1 : Int32)  (Q : Int32 → gw_H → Prop) : Int32 → Int32 → gw_H → Prop :=
  fun x2 x3 h => (∃ n_12 : Nat, wl_X4_behindStatement_93 p1  Q n_12 x2 x3 (0 : Int32) h)
set_option maxRecDepth 100000 in
set_option maxHeartbeats 4000000 in
theorem tk_X4_behindStatement_90 {l : Launch} {ad : Nat → Nat} {X : gw_X} {p1 : Int32}  {Q : Int32 → gw_H → Prop}   (x2 : Int32) (x3 : Int32) (h : gw_H) (hw : wk_X4_behindStatement_90 p1  Q x2 x3 h) : gw_G l vC ad cX4_behindStatement RX4 5 (some .int) 5 113 Q X h 90 [some (.ref (ad 70)), some (.int p1), some (.int x2), some (.int x3), none] [] := by
  unfold wk_X4_behindStatement_90 at hw
  refine gw_iconst dX4_behindStatement_90 ic_0 ?_
  refine gw_istore (ls' := [some (.ref (ad 70)), some (.int p1), some (.int x2), some (.int x3), some (.int (0 : Int32))]) dX4_behindStatement_91 (Nat.le_of_ble_eq_true rfl) rfl ?_
  obtain ⟨n_12, hw⟩ := hw
  exact tl_X4_behindStatement_93   n_12 x2 x3 (0 : Int32) h hw
def wk_X4_behindStatement_60 (p1 : Int32)  (Q : Int32 → gw_H → Prop) : Int32 → Int32 → gw_H → Prop :=
  fun x2 x3 h => (wk_X4_behindStatement_90 p1  Q x2 x3 h)
set_option maxRecDepth 100000 in
set_option maxHeartbeats 4000000 in
theorem tk_X4_behindStatement_60 {l : Launch} {ad : Nat → Nat} {X : gw_X} {p1 : Int32}  {Q : Int32 → gw_H → Prop}   (x2 : Int32) (x3 : Int32) (h : gw_H) (hw : wk_X4_behindStatement_60 p1  Q x2 x3 h) : gw_G l vC ad cX4_behindStatement RX4 5 (some .int) 5 113 Q X h 60 [some (.ref (ad 70)), some (.int p1), some (.int x2), some (.int x3), none] [] := by
  unfold wk_X4_behindStatement_60 at hw
  refine gw_goto (tgt := 90) dX4_behindStatement_60 (by decide) ?_
  exact tk_X4_behindStatement_90   x2 x3 h hw
def wk_X4_behindStatement_63 (p1 : Int32)  (Q : Int32 → gw_H → Prop) : Int32 → Int32 → gw_H → Prop :=
  fun x2 x3 h => (wp_X4_kind h p1 (fun r_16 h_15 => ((0 ≤ r_16 → (wk_X4_behindStatement_90 p1  Q (x2 + (1 : Int32)) x3 h_15)) ∧ (¬ 0 ≤ r_16 → Q ((-1 : Int32) - x2) h_15))))
set_option maxRecDepth 100000 in
set_option maxHeartbeats 4000000 in
theorem tk_X4_behindStatement_63 {l : Launch} {ad : Nat → Nat} {X : gw_X} {p1 : Int32}  {Q : Int32 → gw_H → Prop}   (x2 : Int32) (x3 : Int32) (h : gw_H) (hw : wk_X4_behindStatement_63 p1  Q x2 x3 h) : gw_G l vC ad cX4_behindStatement RX4 5 (some .int) 5 113 Q X h 63 [some (.ref (ad 70)), some (.int p1), some (.int x2), some (.int x3), none] [] := by
  unfold wk_X4_behindStatement_63 at hw
  refine gw_aload_n dX4_behindStatement_63 rfl rfl ?_
  refine gw_iload_n dX4_behindStatement_64 rfl rfl ?_
  refine gw_callVi (As := [.int p1]) (rest := []) rfl (gc_X4_kind  hw) mX4_kind lmX4_46 oX4 clX4 rfl rfl ⟨Nat.le_of_ble_eq_true rfl, Nat.le_of_ble_eq_true rfl⟩ (Nat.le_of_ble_eq_true rfl) dX4_behindStatement_65 (fun r_16 h_15 hw => ?_)
  refine gw_if_ge (tgt := 75) dX4_behindStatement_68 (by decide) (fun c_17 => ?_) (fun c_17 => ?_)
  · have hw := hw.1 c_17
    refine gw_iinc (ls' := [some (.ref (ad 70)), some (.int p1), some (.int (x2 + (1 : Int32))), some (.int x3), none]) dX4_behindStatement_75 rfl (congrArg (fun z => x2 + z) ic_1) (Nat.le_of_ble_eq_true rfl) rfl ?_
    refine gw_goto (tgt := 90) dX4_behindStatement_78 (by decide) ?_
    exact tk_X4_behindStatement_90   (x2 + (1 : Int32)) x3 h_15 hw
  · have hw := hw.2 c_17
    refine gw_iconst dX4_behindStatement_71 ic_m1 ?_
    refine gw_iload_n dX4_behindStatement_72 rfl rfl ?_
    refine gw_isub dX4_behindStatement_73 ?_
    exact gw_ireturn (ty := .int) hw rfl rfl dX4_behindStatement_74
def wp_X4_behindStatement (h : gw_H) (p1 : Int32) (Q : Int32 → gw_H → Prop) : Prop :=
  (wp_X4_sign h p1 (fun r_2 h_1 => ((r_2 = (100 : Int32) → (wk_X4_behindStatement_60 p1  Q (p1 + (1 : Int32)) (2 : Int32) h_1)) ∧ (¬ r_2 = (100 : Int32) → ((r_2 = (103 : Int32) → (wk_X4_behindStatement_60 p1  Q (p1 + (1 : Int32)) (2 : Int32) h_1)) ∧ (¬ r_2 = (103 : Int32) → ((r_2 = (104 : Int32) → (wk_X4_behindStatement_63 p1  Q (p1 + (1 : Int32)) (2 : Int32) h_1)) ∧ (¬ r_2 = (104 : Int32) → ((r_2 = (111 : Int32) → (wk_X4_behindStatement_90 p1  Q (p1 + (1 : Int32)) (1 : Int32) h_1)) ∧ (¬ r_2 = (111 : Int32) → ((r_2 = (115 : Int32) → (wk_X4_behindStatement_63 p1  Q (p1 + (1 : Int32)) (2 : Int32) h_1)) ∧ (¬ r_2 = (115 : Int32) → Q ((-1 : Int32) - p1) h_1))))))))))))
set_option maxRecDepth 100000 in
set_option maxHeartbeats 4000000 in
theorem gc_X4_behindStatement {l : Launch} {ad : Nat → Nat} {h : gw_H} {p1 : Int32} {Q : Int32 → gw_H → Prop}  (hw : wp_X4_behindStatement h p1 Q) : gw_C l yX4_behindStatement cX4_behindStatement 5 (some .int) 5 113 vC ad [.ref (ad 70), .int p1] h Q := by
  refine gw_entry (own := RX4) [some (.ref (ad 70)), some (.int p1), none, none, none] pl_X4 rfl rfl (Nat.le_of_ble_eq_true rfl) rfl (fun X => ?_)
  unfold wp_X4_behindStatement at hw
  refine gw_iload_n dX4_behindStatement_0 rfl rfl ?_
  refine gw_iconst dX4_behindStatement_1 ic_1 ?_
  refine gw_iadd dX4_behindStatement_2 ?_
  refine gw_istore_n (ls' := [some (.ref (ad 70)), some (.int p1), some (.int (p1 + (1 : Int32))), none, none]) dX4_behindStatement_3 rfl (Nat.le_of_ble_eq_true rfl) rfl ?_
  refine gw_iconst dX4_behindStatement_4 ic_2 ?_
  refine gw_istore_n (ls' := [some (.ref (ad 70)), some (.int p1), some (.int (p1 + (1 : Int32))), some (.int (2 : Int32)), none]) dX4_behindStatement_5 rfl (Nat.le_of_ble_eq_true rfl) rfl ?_
  refine gw_aload_n dX4_behindStatement_6 rfl rfl ?_
  refine gw_iload_n dX4_behindStatement_7 rfl rfl ?_
  refine gw_callVi (As := [.int p1]) (rest := []) rfl (gc_X4_sign  hw) mX4_sign lmX4_27 oX4 clX4 rfl rfl ⟨Nat.le_of_ble_eq_true rfl, Nat.le_of_ble_eq_true rfl⟩ (Nat.le_of_ble_eq_true rfl) dX4_behindStatement_8 (fun r_2 h_1 hw => ?_)
  by_cases c_3 : r_2 = (100 : Int32)
  · have hw := hw.1 c_3
    refine gw_lsw (off := 49) (tgt := 60) dX4_behindStatement_11 (by decide) (by rw [c_3]; decide) (by decide) ?_
    exact tk_X4_behindStatement_60   (p1 + (1 : Int32)) (2 : Int32) h_1 hw
  · have hw := hw.2 c_3
    by_cases c_13 : r_2 = (103 : Int32)
    · have hw := hw.1 c_13
      refine gw_lsw (off := 49) (tgt := 60) dX4_behindStatement_11 (by decide) (by rw [c_13]; decide) (by decide) ?_
      exact tk_X4_behindStatement_60   (p1 + (1 : Int32)) (2 : Int32) h_1 hw
    · have hw := hw.2 c_13
      by_cases c_14 : r_2 = (104 : Int32)
      · have hw := hw.1 c_14
        refine gw_lsw (off := 52) (tgt := 63) dX4_behindStatement_11 (by decide) (by rw [c_14]; decide) (by decide) ?_
        exact tk_X4_behindStatement_63   (p1 + (1 : Int32)) (2 : Int32) h_1 hw
      · have hw := hw.2 c_14
        by_cases c_18 : r_2 = (111 : Int32)
        · have hw := hw.1 c_18
          refine gw_lsw (off := 70) (tgt := 81) dX4_behindStatement_11 (by decide) (by rw [c_18]; decide) (by decide) ?_
          refine gw_iconst dX4_behindStatement_81 ic_1 ?_
          refine gw_istore_n (ls' := [some (.ref (ad 70)), some (.int p1), some (.int (p1 + (1 : Int32))), some (.int (1 : Int32)), none]) dX4_behindStatement_82 rfl (Nat.le_of_ble_eq_true rfl) rfl ?_
          refine gw_goto (tgt := 90) dX4_behindStatement_83 (by decide) ?_
          exact tk_X4_behindStatement_90   (p1 + (1 : Int32)) (1 : Int32) h_1 hw
        · have hw := hw.2 c_18
          by_cases c_19 : r_2 = (115 : Int32)
          · have hw := hw.1 c_19
            refine gw_lsw (off := 52) (tgt := 63) dX4_behindStatement_11 (by decide) (by rw [c_19]; decide) (by decide) ?_
            exact tk_X4_behindStatement_63   (p1 + (1 : Int32)) (2 : Int32) h_1 hw
          · have hw := hw.2 c_19
            refine gw_lsw (off := 75) (tgt := 86) dX4_behindStatement_11 (by decide) ((lv_osw c_3 (by decide)).trans ((lv_osw c_13 (by decide)).trans ((lv_osw c_14 (by decide)).trans ((lv_osw c_18 (by decide)).trans ((lv_osw c_19 (by decide)).trans rfl))))) (by decide) ?_
            refine gw_iconst dX4_behindStatement_86 ic_m1 ?_
            refine gw_iload_n dX4_behindStatement_87 rfl rfl ?_
            refine gw_isub dX4_behindStatement_88 ?_
            exact gw_ireturn (ty := .int) hw rfl rfl dX4_behindStatement_89
def wl_X4_faultPlace_4   (Q : Int32 → gw_H → Prop) : Nat → Int32 → Int32 → gw_H → Prop
  | 0 => fun _ _ _ => False
  | n + 1 => fun x1 x2 h => (((96 : Int32) < x2 → Q (-9 : Int32) h) ∧ (¬ (96 : Int32) < x2 → (wp_X4_behindStatement h x1 (fun r_3 h_2 => ((0 ≤ r_3 → ((r_3 < (h_2 70 1) → ((wl_X4_faultPlace_4   Q n) r_3 (x2 + (1 : Int32)) h_2)) ∧ (¬ r_3 < (h_2 70 1) → Q (-9 : Int32) h_2))) ∧ (¬ 0 ≤ r_3 → Q ((-1 : Int32) - r_3) h_2))))))
set_option maxRecDepth 100000 in
set_option maxHeartbeats 4000000 in
theorem tl_X4_faultPlace_4 {l : Launch} {ad : Nat → Nat} {X : gw_X}   {Q : Int32 → gw_H → Prop}   : ∀ (n : Nat) (x1 : Int32) (x2 : Int32) (h : gw_H), wl_X4_faultPlace_4   Q n x1 x2 h → gw_G l vC ad cX4_faultPlace RX4 3 (some .int) 6 137 Q X h 4 [some (.ref (ad 70)), some (.int x1), some (.int x2)] [] := by
  intro n
  induction n with
  | zero => intro x1 x2 h hw; exact hw.elim
  | succ n ih =>
    intro x1 x2 h hw
    unfold wl_X4_faultPlace_4 at hw
    refine gw_iload_n dX4_faultPlace_4 rfl rfl ?_
    refine gw_bipush dX4_faultPlace_5 bp_96 ?_
    refine gw_icmp_gt (tgt := 41) dX4_faultPlace_7 (by decide) (fun c_1 => ?_) (fun c_1 => ?_)
    · have hw := hw.1 c_1
      refine gw_bipush dX4_faultPlace_41 bp_m9 ?_
      exact gw_ireturn (ty := .int) hw rfl rfl dX4_faultPlace_43
    · have hw := hw.2 c_1
      refine gw_aload_n dX4_faultPlace_10 rfl rfl ?_
      refine gw_iload_n dX4_faultPlace_11 rfl rfl ?_
      refine gw_callVi (As := [.int x1]) (rest := []) rfl (gc_X4_behindStatement  hw) mX4_behindStatement lmX4_43 oX4 clX4 rfl rfl ⟨Nat.le_of_ble_eq_true rfl, Nat.le_of_ble_eq_true rfl⟩ (Nat.le_of_ble_eq_true rfl) dX4_faultPlace_12 (fun r_3 h_2 hw => ?_)
      refine gw_istore_n (ls' := [some (.ref (ad 70)), some (.int r_3), some (.int x2)]) dX4_faultPlace_15 rfl (Nat.le_of_ble_eq_true rfl) rfl ?_
      refine gw_iload_n dX4_faultPlace_16 rfl rfl ?_
      refine gw_if_ge (tgt := 24) dX4_faultPlace_17 (by decide) (fun c_4 => ?_) (fun c_4 => ?_)
      · have hw := hw.1 c_4
        refine gw_iload_n dX4_faultPlace_24 rfl rfl ?_
        refine gw_aload_n dX4_faultPlace_25 rfl rfl ?_
        refine gw_getf (k := 1) (v := .int (h_2 70 1)) oX4 clX4 inUX4 (Nat.le_of_ble_eq_true rfl) rfl lfX4_15 rfl dX4_faultPlace_26 ?_
        refine gw_icmp_lt (tgt := 35) dX4_faultPlace_29 (by decide) (fun c_5 => ?_) (fun c_5 => ?_)
        · have hw := hw.1 c_5
          refine gw_iinc (ls' := [some (.ref (ad 70)), some (.int r_3), some (.int (x2 + (1 : Int32)))]) dX4_faultPlace_35 rfl (congrArg (fun z => x2 + z) ic_1) (Nat.le_of_ble_eq_true rfl) rfl ?_
          refine gw_goto (tgt := 4) dX4_faultPlace_38 (by decide) ?_
          exact ih r_3 (x2 + (1 : Int32)) h_2 hw
        · have hw := hw.2 c_5
          refine gw_bipush dX4_faultPlace_32 bp_m9 ?_
          exact gw_ireturn (ty := .int) hw rfl rfl dX4_faultPlace_34
      · have hw := hw.2 c_4
        refine gw_iconst dX4_faultPlace_20 ic_m1 ?_
        refine gw_iload_n dX4_faultPlace_21 rfl rfl ?_
        refine gw_isub dX4_faultPlace_22 ?_
        exact gw_ireturn (ty := .int) hw rfl rfl dX4_faultPlace_23
def wp_X4_faultPlace (h : gw_H)  (Q : Int32 → gw_H → Prop) : Prop :=
  (∃ n_6 : Nat, wl_X4_faultPlace_4   Q n_6 (0 : Int32) (0 : Int32) h)
set_option maxRecDepth 100000 in
set_option maxHeartbeats 4000000 in
theorem gc_X4_faultPlace {l : Launch} {ad : Nat → Nat} {h : gw_H}  {Q : Int32 → gw_H → Prop}  (hw : wp_X4_faultPlace h  Q) : gw_C l yX4_faultPlace cX4_faultPlace 3 (some .int) 6 137 vC ad [.ref (ad 70)] h Q := by
  refine gw_entry (own := RX4) [some (.ref (ad 70)), none, none] pl_X4 rfl rfl (Nat.le_of_ble_eq_true rfl) rfl (fun X => ?_)
  unfold wp_X4_faultPlace at hw
  refine gw_iconst dX4_faultPlace_0 ic_0 ?_
  refine gw_istore_n (ls' := [some (.ref (ad 70)), some (.int (0 : Int32)), none]) dX4_faultPlace_1 rfl (Nat.le_of_ble_eq_true rfl) rfl ?_
  refine gw_iconst dX4_faultPlace_2 ic_0 ?_
  refine gw_istore_n (ls' := [some (.ref (ad 70)), some (.int (0 : Int32)), some (.int (0 : Int32))]) dX4_faultPlace_3 rfl (Nat.le_of_ble_eq_true rfl) rfl ?_
  obtain ⟨n_6, hw⟩ := hw
  exact tl_X4_faultPlace_4   n_6 (0 : Int32) (0 : Int32) h hw
def wp_X4_isFull (h : gw_H)  (Q : Int32 → gw_H → Prop) : Prop :=
  (((h 70 1) < (96 : Int32) → Q (0 : Int32) h) ∧ (¬ (h 70 1) < (96 : Int32) → Q (1 : Int32) h))
set_option maxRecDepth 100000 in
set_option maxHeartbeats 4000000 in
theorem gc_X4_isFull {l : Launch} {ad : Nat → Nat} {h : gw_H}  {Q : Int32 → gw_H → Prop}  (hw : wp_X4_isFull h  Q) : gw_C l yX4_isFull cX4_isFull 1 (some .boolean) 0 0 vC ad [.ref (ad 70)] h Q := by
  refine gw_entry (own := RX4) [some (.ref (ad 70))] pl_X4 rfl rfl (Nat.le_of_ble_eq_true rfl) rfl (fun X => ?_)
  unfold wp_X4_isFull at hw
  refine gw_aload_n dX4_isFull_0 rfl rfl ?_
  refine gw_getf (k := 1) (v := .int (h 70 1)) oX4 clX4 inUX4 (Nat.le_of_ble_eq_true rfl) rfl lfX4_15 rfl dX4_isFull_1 ?_
  refine gw_bipush dX4_isFull_4 bp_96 ?_
  refine gw_icmp_lt (tgt := 13) dX4_isFull_6 (by decide) (fun c_1 => ?_) (fun c_1 => ?_)
  · have hw := hw.1 c_1
    refine gw_iconst dX4_isFull_13 ic_0 ?_
    exact gw_ireturn (ty := .boolean) hw rfl rfl dX4_isFull_14
  · have hw := hw.2 c_1
    refine gw_iconst dX4_isFull_9 ic_1 ?_
    refine gw_goto (tgt := 14) dX4_isFull_10 (by decide) ?_
    exact gw_ireturn (ty := .boolean) hw rfl rfl dX4_isFull_14
def wp_X4_value (h : gw_H) (p1 : Int32) (Q : Int32 → gw_H → Prop) : Prop :=
  (wp_X4_digit h p1 (fun r_2 h_1 => (wp_X4_digit h_1 (p1 + (1 : Int32)) (fun r_4 h_3 => ((¬ r_4 = (-9 : Int32) → Q (((10 : Int32) * r_2) + r_4) h_3) ∧ (r_4 = (-9 : Int32) → Q r_2 h_3))))))
set_option maxRecDepth 100000 in
set_option maxHeartbeats 4000000 in
theorem gc_X4_value {l : Launch} {ad : Nat → Nat} {h : gw_H} {p1 : Int32} {Q : Int32 → gw_H → Prop}  (hw : wp_X4_value h p1 Q) : gw_C l yX4_value cX4_value 4 (some .int) 3 64 vC ad [.ref (ad 70), .int p1] h Q := by
  refine gw_entry (own := RX4) [some (.ref (ad 70)), some (.int p1), none, none] pl_X4 rfl rfl (Nat.le_of_ble_eq_true rfl) rfl (fun X => ?_)
  unfold wp_X4_value at hw
  refine gw_aload_n dX4_value_0 rfl rfl ?_
  refine gw_iload_n dX4_value_1 rfl rfl ?_
  refine gw_callVi (As := [.int p1]) (rest := []) rfl (gc_X4_digit  hw) mX4_digit lmX4_31 oX4 clX4 rfl rfl ⟨Nat.le_of_ble_eq_true rfl, Nat.le_of_ble_eq_true rfl⟩ (Nat.le_of_ble_eq_true rfl) dX4_value_2 (fun r_2 h_1 hw => ?_)
  refine gw_istore_n (ls' := [some (.ref (ad 70)), some (.int p1), some (.int r_2), none]) dX4_value_5 rfl (Nat.le_of_ble_eq_true rfl) rfl ?_
  refine gw_aload_n dX4_value_6 rfl rfl ?_
  refine gw_iload_n dX4_value_7 rfl rfl ?_
  refine gw_iconst dX4_value_8 ic_1 ?_
  refine gw_iadd dX4_value_9 ?_
  refine gw_callVi (As := [.int (p1 + (1 : Int32))]) (rest := []) rfl (gc_X4_digit  hw) mX4_digit lmX4_31 oX4 clX4 rfl rfl ⟨Nat.le_of_ble_eq_true rfl, Nat.le_of_ble_eq_true rfl⟩ (Nat.le_of_ble_eq_true rfl) dX4_value_10 (fun r_4 h_3 hw => ?_)
  refine gw_istore_n (ls' := [some (.ref (ad 70)), some (.int p1), some (.int r_2), some (.int r_4)]) dX4_value_13 rfl (Nat.le_of_ble_eq_true rfl) rfl ?_
  refine gw_iload_n dX4_value_14 rfl rfl ?_
  refine gw_bipush dX4_value_15 bp_m9 ?_
  refine gw_icmp_ne (tgt := 24) dX4_value_17 (by decide) (fun c_5 => ?_) (fun c_5 => ?_)
  · have hw := hw.1 c_5
    refine gw_bipush dX4_value_24 bp_10 ?_
    refine gw_iload_n dX4_value_26 rfl rfl ?_
    refine gw_imul dX4_value_27 ?_
    refine gw_iload_n dX4_value_28 rfl rfl ?_
    refine gw_iadd dX4_value_29 ?_
    exact gw_ireturn (ty := .int) hw rfl rfl dX4_value_30
  · have hw := hw.2 c_5
    refine gw_iload_n dX4_value_20 rfl rfl ?_
    refine gw_goto (tgt := 30) dX4_value_21 (by decide) ?_
    exact gw_ireturn (ty := .int) hw rfl rfl dX4_value_30
