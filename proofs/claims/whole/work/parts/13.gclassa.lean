def wp_X5_count (h : gw_H) (p1 : Int32) (Q : Int32 → gw_H → Prop) : Prop :=
  ((p1 = (0 : Int32) → Q (h 10 8) h) ∧ (¬ p1 = (0 : Int32) → ((p1 = (1 : Int32) → Q (h 6 3) h) ∧ (¬ p1 = (1 : Int32) → ((p1 = (2 : Int32) → Q (h 2 3) h) ∧ (¬ p1 = (2 : Int32) → ((p1 = (3 : Int32) → (wp_X0_openOnes h 1 (fun r_6 h_5 => Q r_6 h_5))) ∧ (¬ p1 = (3 : Int32) → ((p1 = (4 : Int32) → Q (h 1 3) h) ∧ (¬ p1 = (4 : Int32) → ((p1 = (5 : Int32) → Q (h 1 4) h) ∧ (¬ p1 = (5 : Int32) → ((p1 = (6 : Int32) → (wp_X1_holders h 1 (-1 : Int32) (fun r_11 h_10 => Q r_11 h_10))) ∧ (¬ p1 = (6 : Int32) → ((p1 = (7 : Int32) → (wp_X1_allStrength h 1 (fun r_14 h_13 => Q r_14 h_13))) ∧ (¬ p1 = (7 : Int32) → ((p1 = (8 : Int32) → Q (h 0 6) h) ∧ (¬ p1 = (8 : Int32) → ((p1 = (9 : Int32) → Q (h 70 1) h) ∧ (¬ p1 = (9 : Int32) → ((p1 < (11 : Int32) → Q (-9 : Int32) h) ∧ (¬ p1 < (11 : Int32) → (((16 : Int32) < p1 → Q (-9 : Int32) h) ∧ (¬ (16 : Int32) < p1 → (wp_X5_at h (73) 7 (p1 - (10 : Int32)) (fun r_20 h_19 => Q r_20 h_19))))))))))))))))))))))))))
set_option maxRecDepth 100000 in
set_option maxHeartbeats 4000000 in
theorem gc_X5_count {l : Launch} {ad : Nat → Nat} {h : gw_H} {p1 : Int32} {Q : Int32 → gw_H → Prop}  (hw : wp_X5_count h p1 Q) : gw_C l yX5_count cX5_count 2 (some .int) 3 65 vC ad [.ref (ad 0), .int p1] h Q := by
  refine gw_entry (own := RX5) [some (.ref (ad 0)), some (.int p1)] pl_X5 rfl rfl (Nat.le_of_ble_eq_true rfl) rfl (fun X => ?_)
  unfold wp_X5_count at hw
  refine gw_iload_n dX5_count_0 rfl rfl ?_
  by_cases c_1 : p1 = (0 : Int32)
  · have hw := hw.1 c_1
    refine gw_tin (k := (0 : Int32)) (off := 55) (tgt := 56) dX5_count_1 c_1 (by decide) (by decide) (by decide) (by decide) ?_
    refine gw_aload_n dX5_count_56 rfl rfl ?_
    refine gw_getf (k := 0) (v := .ref (ad 1)) oX5 clX5 inUX5 (Nat.le_of_ble_eq_true rfl) rfl lfX5_10 rfl dX5_count_57 ?_
    refine gw_getfN (k := 2) (v := .ref (ad 10)) (oX2 hb1) clX2 inUX2 (Nat.le_of_ble_eq_true rfl) rfl lfX5_96 rfl dX5_count_60 ?_
    refine gw_getfN (k := 8) (v := .int (h 10 8)) (oX1 hb1) clX1 inUX1 (Nat.le_of_ble_eq_true rfl) rfl lfX5_202 rfl dX5_count_63 ?_
    exact gw_ireturn (ty := .int) hw rfl rfl dX5_count_66
  · have hw := hw.2 c_1
    by_cases c_2 : p1 = (1 : Int32)
    · have hw := hw.1 c_2
      refine gw_tin (k := (1 : Int32)) (off := 66) (tgt := 67) dX5_count_1 c_2 (by decide) (by decide) (by decide) (by decide) ?_
      refine gw_aload_n dX5_count_67 rfl rfl ?_
      refine gw_getf (k := 0) (v := .ref (ad 1)) oX5 clX5 inUX5 (Nat.le_of_ble_eq_true rfl) rfl lfX5_10 rfl dX5_count_68 ?_
      refine gw_getfN (k := 1) (v := .ref (ad 6)) (oX2 hb1) clX2 inUX2 (Nat.le_of_ble_eq_true rfl) rfl lfX5_70 rfl dX5_count_71 ?_
      refine gw_getfN (k := 3) (v := .int (h 6 3)) (oX3 hb1) clX3 inUX3 (Nat.le_of_ble_eq_true rfl) rfl lfX5_185 rfl dX5_count_74 ?_
      exact gw_ireturn (ty := .int) hw rfl rfl dX5_count_77
    · have hw := hw.2 c_2
      by_cases c_3 : p1 = (2 : Int32)
      · have hw := hw.1 c_3
        refine gw_tin (k := (2 : Int32)) (off := 77) (tgt := 78) dX5_count_1 c_3 (by decide) (by decide) (by decide) (by decide) ?_
        refine gw_aload_n dX5_count_78 rfl rfl ?_
        refine gw_getf (k := 0) (v := .ref (ad 1)) oX5 clX5 inUX5 (Nat.le_of_ble_eq_true rfl) rfl lfX5_10 rfl dX5_count_79 ?_
        refine gw_getfN (k := 0) (v := .ref (ad 2)) (oX2 hb1) clX2 inUX2 (Nat.le_of_ble_eq_true rfl) rfl lfX5_138 rfl dX5_count_82 ?_
        refine gw_getfN (k := 3) (v := .int (h 2 3)) (oX0 hb1) clX0 inUX0 (Nat.le_of_ble_eq_true rfl) rfl lfX5_195 rfl dX5_count_85 ?_
        exact gw_ireturn (ty := .int) hw rfl rfl dX5_count_88
      · have hw := hw.2 c_3
        by_cases c_4 : p1 = (3 : Int32)
        · have hw := hw.1 c_4
          refine gw_tin (k := (3 : Int32)) (off := 88) (tgt := 89) dX5_count_1 c_4 (by decide) (by decide) (by decide) (by decide) ?_
          refine gw_aload_n dX5_count_89 rfl rfl ?_
          refine gw_getf (k := 0) (v := .ref (ad 1)) oX5 clX5 inUX5 (Nat.le_of_ble_eq_true rfl) rfl lfX5_10 rfl dX5_count_90 ?_
          refine gw_getfN (k := 0) (v := .ref (ad 2)) (oX2 hb1) clX2 inUX2 (Nat.le_of_ble_eq_true rfl) rfl lfX5_138 rfl dX5_count_93 ?_
          refine gw_callVi (As := []) (rest := []) rfl (gc_X0_openOnes hb1 hw) mX0_openOnes lmX5_232 (oX0 hb1) clX0 rfl rfl ⟨Nat.le_of_ble_eq_true rfl, Nat.le_of_ble_eq_true rfl⟩ (Nat.le_of_ble_eq_true rfl) dX5_count_96 (fun r_6 h_5 hw => ?_)
          exact gw_ireturn (ty := .int) hw rfl rfl dX5_count_99
        · have hw := hw.2 c_4
          by_cases c_7 : p1 = (4 : Int32)
          · have hw := hw.1 c_7
            refine gw_tin (k := (4 : Int32)) (off := 99) (tgt := 100) dX5_count_1 c_7 (by decide) (by decide) (by decide) (by decide) ?_
            refine gw_aload_n dX5_count_100 rfl rfl ?_
            refine gw_getf (k := 0) (v := .ref (ad 1)) oX5 clX5 inUX5 (Nat.le_of_ble_eq_true rfl) rfl lfX5_10 rfl dX5_count_101 ?_
            refine gw_getfN (k := 3) (v := .int (h 1 3)) (oX2 hb1) clX2 inUX2 (Nat.le_of_ble_eq_true rfl) rfl lfX5_128 rfl dX5_count_104 ?_
            exact gw_ireturn (ty := .int) hw rfl rfl dX5_count_107
          · have hw := hw.2 c_7
            by_cases c_8 : p1 = (5 : Int32)
            · have hw := hw.1 c_8
              refine gw_tin (k := (5 : Int32)) (off := 107) (tgt := 108) dX5_count_1 c_8 (by decide) (by decide) (by decide) (by decide) ?_
              refine gw_aload_n dX5_count_108 rfl rfl ?_
              refine gw_getf (k := 0) (v := .ref (ad 1)) oX5 clX5 inUX5 (Nat.le_of_ble_eq_true rfl) rfl lfX5_10 rfl dX5_count_109 ?_
              refine gw_getfN (k := 4) (v := .int (h 1 4)) (oX2 hb1) clX2 inUX2 (Nat.le_of_ble_eq_true rfl) rfl lfX5_125 rfl dX5_count_112 ?_
              exact gw_ireturn (ty := .int) hw rfl rfl dX5_count_115
            · have hw := hw.2 c_8
              by_cases c_9 : p1 = (6 : Int32)
              · have hw := hw.1 c_9
                refine gw_tin (k := (6 : Int32)) (off := 115) (tgt := 116) dX5_count_1 c_9 (by decide) (by decide) (by decide) (by decide) ?_
                refine gw_aload_n dX5_count_116 rfl rfl ?_
                refine gw_getf (k := 0) (v := .ref (ad 1)) oX5 clX5 inUX5 (Nat.le_of_ble_eq_true rfl) rfl lfX5_10 rfl dX5_count_117 ?_
                refine gw_getfN (k := 2) (v := .ref (ad 10)) (oX2 hb1) clX2 inUX2 (Nat.le_of_ble_eq_true rfl) rfl lfX5_96 rfl dX5_count_120 ?_
                refine gw_iconst dX5_count_123 ic_m1 ?_
                refine gw_callVi (As := [.int (-1 : Int32)]) (rest := []) rfl (gc_X1_holders hb1 hw) mX1_holders lmX5_100 (oX1 hb1) clX1 rfl rfl ⟨Nat.le_of_ble_eq_true rfl, Nat.le_of_ble_eq_true rfl⟩ (Nat.le_of_ble_eq_true rfl) dX5_count_124 (fun r_11 h_10 hw => ?_)
                exact gw_ireturn (ty := .int) hw rfl rfl dX5_count_127
              · have hw := hw.2 c_9
                by_cases c_12 : p1 = (7 : Int32)
                · have hw := hw.1 c_12
                  refine gw_tin (k := (7 : Int32)) (off := 127) (tgt := 128) dX5_count_1 c_12 (by decide) (by decide) (by decide) (by decide) ?_
                  refine gw_aload_n dX5_count_128 rfl rfl ?_
                  refine gw_getf (k := 0) (v := .ref (ad 1)) oX5 clX5 inUX5 (Nat.le_of_ble_eq_true rfl) rfl lfX5_10 rfl dX5_count_129 ?_
                  refine gw_getfN (k := 2) (v := .ref (ad 10)) (oX2 hb1) clX2 inUX2 (Nat.le_of_ble_eq_true rfl) rfl lfX5_96 rfl dX5_count_132 ?_
                  refine gw_callVi (As := []) (rest := []) rfl (gc_X1_allStrength hb1 hw) mX1_allStrength lmX5_235 (oX1 hb1) clX1 rfl rfl ⟨Nat.le_of_ble_eq_true rfl, Nat.le_of_ble_eq_true rfl⟩ (Nat.le_of_ble_eq_true rfl) dX5_count_135 (fun r_14 h_13 hw => ?_)
                  exact gw_ireturn (ty := .int) hw rfl rfl dX5_count_138
                · have hw := hw.2 c_12
                  by_cases c_15 : p1 = (8 : Int32)
                  · have hw := hw.1 c_15
                    refine gw_tin (k := (8 : Int32)) (off := 138) (tgt := 139) dX5_count_1 c_15 (by decide) (by decide) (by decide) (by decide) ?_
                    refine gw_aload_n dX5_count_139 rfl rfl ?_
                    refine gw_getf (k := 6) (v := .int (h 0 6)) oX5 clX5 inUX5 (Nat.le_of_ble_eq_true rfl) rfl lfX5_37 rfl dX5_count_140 ?_
                    exact gw_ireturn (ty := .int) hw rfl rfl dX5_count_143
                  · have hw := hw.2 c_15
                    by_cases c_16 : p1 = (9 : Int32)
                    · have hw := hw.1 c_16
                      refine gw_tin (k := (9 : Int32)) (off := 143) (tgt := 144) dX5_count_1 c_16 (by decide) (by decide) (by decide) (by decide) ?_
                      refine gw_aload_n dX5_count_144 rfl rfl ?_
                      refine gw_getf (k := 4) (v := .ref (ad 70)) oX5 clX5 inUX5 (Nat.le_of_ble_eq_true rfl) rfl lfX5_29 rfl dX5_count_145 ?_
                      refine gw_getfN (k := 1) (v := .int (h 70 1)) oX4 clX4 inUX4 (Nat.le_of_ble_eq_true rfl) rfl lfX5_60 rfl dX5_count_148 ?_
                      exact gw_ireturn (ty := .int) hw rfl rfl dX5_count_151
                    · have hw := hw.2 c_16
                      refine gw_tout (tgt := 152) dX5_count_1 (by have q0 := lv_neT c_1 (a := 0) (by decide); have q1 := lv_neT c_2 (a := 1) (by decide); have q2 := lv_neT c_3 (a := 2) (by decide); have q3 := lv_neT c_4 (a := 3) (by decide); have q4 := lv_neT c_7 (a := 4) (by decide); have q5 := lv_neT c_8 (a := 5) (by decide); have q6 := lv_neT c_9 (a := 6) (by decide); have q7 := lv_neT c_12 (a := 7) (by decide); have q8 := lv_neT c_15 (a := 8) (by decide); have q9 := lv_neT c_16 (a := 9) (by decide); omega) (by decide) ?_
                      refine gw_iload_n dX5_count_152 rfl rfl ?_
                      refine gw_bipush dX5_count_153 bp_11 ?_
                      refine gw_icmp_lt (tgt := 178) dX5_count_155 (by decide) (fun c_17 => ?_) (fun c_17 => ?_)
                      · have hw := hw.1 c_17
                        refine gw_bipush dX5_count_178 bp_m9 ?_
                        exact gw_ireturn (ty := .int) hw rfl rfl dX5_count_180
                      · have hw := hw.2 c_17
                        refine gw_iload_n dX5_count_158 rfl rfl ?_
                        refine gw_bipush dX5_count_159 bp_16 ?_
                        refine gw_icmp_gt (tgt := 178) dX5_count_161 (by decide) (fun c_18 => ?_) (fun c_18 => ?_)
                        · have hw := hw.1 c_18
                          refine gw_bipush dX5_count_178 bp_m9 ?_
                          exact gw_ireturn (ty := .int) hw rfl rfl dX5_count_180
                        · have hw := hw.2 c_18
                          refine gw_aload_n dX5_count_164 rfl rfl ?_
                          refine gw_getf (k := 7) (v := .ref (ad 73)) oX5 clX5 inUX5 (Nat.le_of_ble_eq_true rfl) rfl lfX5_41 rfl dX5_count_165 ?_
                          refine gw_iload_n dX5_count_168 rfl rfl ?_
                          refine gw_bipush dX5_count_169 bp_10 ?_
                          refine gw_isub dX5_count_171 ?_
                          refine gw_callSi (As := [.ref (ad 73), .int (p1 - (10 : Int32))]) (rest := []) rfl (gc_X5_at at_73 hw) mX5_at lmX5_83 rfl rfl ⟨Nat.le_of_ble_eq_true rfl, Nat.le_of_ble_eq_true rfl⟩ (Nat.le_of_ble_eq_true rfl) dX5_count_172 (fun r_20 h_19 hw => ?_)
                          refine gw_goto (tgt := 180) dX5_count_175 (by decide) ?_
                          exact gw_ireturn (ty := .int) hw rfl rfl dX5_count_180
def wp_X5_refuse (h : gw_H) (p1 : Int32) (Q : Int32 → gw_H → Prop) : Prop :=
  (wp_X5_at h (73) 7 (-p1) (fun r_2 h_1 => (wp_X5_put h_1 (73) 7 (-p1) (r_2 + (1 : Int32)) (fun _ h_3 => Q p1 h_3))))
set_option maxRecDepth 100000 in
set_option maxHeartbeats 4000000 in
theorem gc_X5_refuse {l : Launch} {ad : Nat → Nat} {h : gw_H} {p1 : Int32} {Q : Int32 → gw_H → Prop}  (hw : wp_X5_refuse h p1 Q) : gw_C l yX5_refuse cX5_refuse 2 (some .int) 1 22 vC ad [.ref (ad 0), .int p1] h Q := by
  refine gw_entry (own := RX5) [some (.ref (ad 0)), some (.int p1)] pl_X5 rfl rfl (Nat.le_of_ble_eq_true rfl) rfl (fun X => ?_)
  unfold wp_X5_refuse at hw
  refine gw_aload_n dX5_refuse_0 rfl rfl ?_
  refine gw_getf (k := 7) (v := .ref (ad 73)) oX5 clX5 inUX5 (Nat.le_of_ble_eq_true rfl) rfl lfX5_41 rfl dX5_refuse_1 ?_
  refine gw_iload_n dX5_refuse_4 rfl rfl ?_
  refine gw_ineg dX5_refuse_5 ?_
  refine gw_aload_n dX5_refuse_6 rfl rfl ?_
  refine gw_getf (k := 7) (v := .ref (ad 73)) oX5 clX5 inUX5 (Nat.le_of_ble_eq_true rfl) rfl lfX5_41 rfl dX5_refuse_7 ?_
  refine gw_iload_n dX5_refuse_10 rfl rfl ?_
  refine gw_ineg dX5_refuse_11 ?_
  refine gw_callSi (As := [.ref (ad 73), .int (-p1)]) (rest := [.int (-p1), .ref (ad 73)]) rfl (gc_X5_at at_73 hw) mX5_at lmX5_83 rfl rfl ⟨Nat.le_of_ble_eq_true rfl, Nat.le_of_ble_eq_true rfl⟩ (Nat.le_of_ble_eq_true rfl) dX5_refuse_12 (fun r_2 h_1 hw => ?_)
  refine gw_iconst dX5_refuse_15 ic_1 ?_
  refine gw_iadd dX5_refuse_16 ?_
  refine gw_callSv (As := [.ref (ad 73), .int (-p1), .int (r_2 + (1 : Int32))]) (rest := []) rfl (gc_X5_put at_73 hw) mX5_put lmX5_151 rfl rfl ⟨Nat.le_of_ble_eq_true rfl, Nat.le_of_ble_eq_true rfl⟩ (Nat.le_of_ble_eq_true rfl) dX5_refuse_17 (fun h_3 hw => ?_)
  refine gw_iload_n dX5_refuse_20 rfl rfl ?_
  exact gw_ireturn (ty := .int) hw rfl rfl dX5_refuse_21
def wp_X5_door (h : gw_H) (p1 : Int32) (Q : Int32 → gw_H → Prop) : Prop :=
  (wp_X0_has h 1 p1 (fun r_2 h_1 => ((¬ r_2 = 0 → (wp_X0_turn h_1 1 p1 (fun r_5 h_4 => Q r_5 h_4))) ∧ (r_2 = 0 → (wp_X5_refuse h_1 (-1 : Int32) (fun r_7 h_6 => Q r_7 h_6))))))
set_option maxRecDepth 100000 in
set_option maxHeartbeats 4000000 in
theorem gc_X5_door {l : Launch} {ad : Nat → Nat} {h : gw_H} {p1 : Int32} {Q : Int32 → gw_H → Prop}  (hw : wp_X5_door h p1 Q) : gw_C l yX5_door cX5_door 2 (some .int) 3 63 vC ad [.ref (ad 0), .int p1] h Q := by
  refine gw_entry (own := RX5) [some (.ref (ad 0)), some (.int p1)] pl_X5 rfl rfl (Nat.le_of_ble_eq_true rfl) rfl (fun X => ?_)
  unfold wp_X5_door at hw
  refine gw_aload_n dX5_door_0 rfl rfl ?_
  refine gw_getf (k := 0) (v := .ref (ad 1)) oX5 clX5 inUX5 (Nat.le_of_ble_eq_true rfl) rfl lfX5_10 rfl dX5_door_1 ?_
  refine gw_getfN (k := 0) (v := .ref (ad 2)) (oX2 hb1) clX2 inUX2 (Nat.le_of_ble_eq_true rfl) rfl lfX5_138 rfl dX5_door_4 ?_
  refine gw_iload_n dX5_door_7 rfl rfl ?_
  refine gw_callVi (As := [.int p1]) (rest := []) rfl (gc_X0_has hb1 hw) mX0_has lmX5_142 (oX0 hb1) clX0 rfl rfl ⟨Nat.le_of_ble_eq_true rfl, Nat.le_of_ble_eq_true rfl⟩ (Nat.le_of_ble_eq_true rfl) dX5_door_8 (fun r_2 h_1 hw => ?_)
  refine gw_if_ne (tgt := 20) dX5_door_11 (by decide) (fun c_3 => ?_) (fun c_3 => ?_)
  · have hw := hw.1 c_3
    refine gw_aload_n dX5_door_20 rfl rfl ?_
    refine gw_getf (k := 0) (v := .ref (ad 1)) oX5 clX5 inUX5 (Nat.le_of_ble_eq_true rfl) rfl lfX5_10 rfl dX5_door_21 ?_
    refine gw_getfN (k := 0) (v := .ref (ad 2)) (oX2 hb1) clX2 inUX2 (Nat.le_of_ble_eq_true rfl) rfl lfX5_138 rfl dX5_door_24 ?_
    refine gw_iload_n dX5_door_27 rfl rfl ?_
    refine gw_callVi (As := [.int p1]) (rest := []) rfl (gc_X0_turn hb1 hw) mX0_turn lmX5_145 (oX0 hb1) clX0 rfl rfl ⟨Nat.le_of_ble_eq_true rfl, Nat.le_of_ble_eq_true rfl⟩ (Nat.le_of_ble_eq_true rfl) dX5_door_28 (fun r_5 h_4 hw => ?_)
    exact gw_ireturn (ty := .int) hw rfl rfl dX5_door_31
  · have hw := hw.2 c_3
    refine gw_aload_n dX5_door_14 rfl rfl ?_
    refine gw_iconst dX5_door_15 ic_m1 ?_
    refine gw_callVi (As := [.int (-1 : Int32)]) (rest := []) rfl (gc_X5_refuse  hw) mX5_refuse lmX5_48 oX5 clX5 rfl rfl ⟨Nat.le_of_ble_eq_true rfl, Nat.le_of_ble_eq_true rfl⟩ (Nat.le_of_ble_eq_true rfl) dX5_door_16 (fun r_7 h_6 hw => ?_)
    exact gw_ireturn (ty := .int) hw rfl rfl dX5_door_19
def wp_X5_outside (h : gw_H) (p1 : Int32) (p2 : Int32) (p3 : Int32) (Q : Int32 → gw_H → Prop) : Prop :=
  ((p2 ≤ p1 → ((p1 ≤ p3 → Q (0 : Int32) h) ∧ (¬ p1 ≤ p3 → Q (-6 : Int32) h))) ∧ (¬ p2 ≤ p1 → Q (-4 : Int32) h))
set_option maxRecDepth 100000 in
set_option maxHeartbeats 4000000 in
theorem gc_X5_outside {l : Launch} {ad : Nat → Nat} {h : gw_H} {p1 : Int32} {p2 : Int32} {p3 : Int32} {Q : Int32 → gw_H → Prop}  (hw : wp_X5_outside h p1 p2 p3 Q) : gw_C l yX5_outside cX5_outside 3 (some .int) 0 0 vC ad [.int p1, .int p2, .int p3] h Q := by
  refine gw_entry (own := RX5) [some (.int p1), some (.int p2), some (.int p3)] pl_X5 rfl rfl (Nat.le_of_ble_eq_true rfl) rfl (fun X => ?_)
  unfold wp_X5_outside at hw
  refine gw_iload_n dX5_outside_0 rfl rfl ?_
  refine gw_iload_n dX5_outside_1 rfl rfl ?_
  refine gw_icmp_ge (tgt := 8) dX5_outside_2 (by decide) (fun c_1 => ?_) (fun c_1 => ?_)
  · have hw := hw.1 c_1
    refine gw_iload_n dX5_outside_8 rfl rfl ?_
    refine gw_iload_n dX5_outside_9 rfl rfl ?_
    refine gw_icmp_le (tgt := 18) dX5_outside_10 (by decide) (fun c_2 => ?_) (fun c_2 => ?_)
    · have hw := hw.1 c_2
      refine gw_iconst dX5_outside_18 ic_0 ?_
      exact gw_ireturn (ty := .int) hw rfl rfl dX5_outside_19
    · have hw := hw.2 c_2
      refine gw_bipush dX5_outside_13 bp_m6 ?_
      refine gw_goto (tgt := 19) dX5_outside_15 (by decide) ?_
      exact gw_ireturn (ty := .int) hw rfl rfl dX5_outside_19
  · have hw := hw.2 c_1
    refine gw_bipush dX5_outside_5 bp_m4 ?_
    exact gw_ireturn (ty := .int) hw rfl rfl dX5_outside_7
def wp_X5_headAndHours (h : gw_H) (p1 : Int32) (p2 : Int32) (Q : Int32 → gw_H → Prop) : Prop :=
  (wp_X1_has h 1 p1 (fun r_2 h_1 => ((r_2 = 0 → Q (-1 : Int32) h_1) ∧ (¬ r_2 = 0 → (wp_X5_outside h_1 p2 (0 : Int32) (60 : Int32) (fun r_5 h_4 => Q r_5 h_4))))))
set_option maxRecDepth 100000 in
set_option maxHeartbeats 4000000 in
theorem gc_X5_headAndHours {l : Launch} {ad : Nat → Nat} {h : gw_H} {p1 : Int32} {p2 : Int32} {Q : Int32 → gw_H → Prop}  (hw : wp_X5_headAndHours h p1 p2 Q) : gw_C l yX5_headAndHours cX5_headAndHours 3 (some .int) 1 22 vC ad [.ref (ad 0), .int p1, .int p2] h Q := by
  refine gw_entry (own := RX5) [some (.ref (ad 0)), some (.int p1), some (.int p2)] pl_X5 rfl rfl (Nat.le_of_ble_eq_true rfl) rfl (fun X => ?_)
  unfold wp_X5_headAndHours at hw
  refine gw_aload_n dX5_headAndHours_0 rfl rfl ?_
  refine gw_getf (k := 0) (v := .ref (ad 1)) oX5 clX5 inUX5 (Nat.le_of_ble_eq_true rfl) rfl lfX5_10 rfl dX5_headAndHours_1 ?_
  refine gw_getfN (k := 2) (v := .ref (ad 10)) (oX2 hb1) clX2 inUX2 (Nat.le_of_ble_eq_true rfl) rfl lfX5_96 rfl dX5_headAndHours_4 ?_
  refine gw_iload_n dX5_headAndHours_7 rfl rfl ?_
  refine gw_callVi (As := [.int p1]) (rest := []) rfl (gc_X1_has hb1 hw) mX1_has lmX5_105 (oX1 hb1) clX1 rfl rfl ⟨Nat.le_of_ble_eq_true rfl, Nat.le_of_ble_eq_true rfl⟩ (Nat.le_of_ble_eq_true rfl) dX5_headAndHours_8 (fun r_2 h_1 hw => ?_)
  refine gw_if_eq (tgt := 24) dX5_headAndHours_11 (by decide) (fun c_3 => ?_) (fun c_3 => ?_)
  · have hw := hw.1 c_3
    refine gw_iconst dX5_headAndHours_24 ic_m1 ?_
    exact gw_ireturn (ty := .int) hw rfl rfl dX5_headAndHours_25
  · have hw := hw.2 c_3
    refine gw_iload_n dX5_headAndHours_14 rfl rfl ?_
    refine gw_iconst dX5_headAndHours_15 ic_0 ?_
    refine gw_bipush dX5_headAndHours_16 bp_60 ?_
    refine gw_callSi (As := [.int p2, .int (0 : Int32), .int (60 : Int32)]) (rest := []) rfl (gc_X5_outside  hw) mX5_outside lmX5_44 rfl rfl ⟨Nat.le_of_ble_eq_true rfl, Nat.le_of_ble_eq_true rfl⟩ (Nat.le_of_ble_eq_true rfl) dX5_headAndHours_18 (fun r_5 h_4 hw => ?_)
    refine gw_goto (tgt := 25) dX5_headAndHours_21 (by decide) ?_
    exact gw_ireturn (ty := .int) hw rfl rfl dX5_headAndHours_25
def wp_X5_imagine (h : gw_H) (p1 : Int32) (Q : Int32 → gw_H → Prop) : Prop :=
  (wp_X2_takeAs h 24 1 (fun _ h_1 => (wp_X2_passHours h_1 24 p1 (fun _ h_2 => Q 0 h_2))))
set_option maxRecDepth 100000 in
set_option maxHeartbeats 4000000 in
theorem gc_X5_imagine {l : Launch} {ad : Nat → Nat} {h : gw_H} {p1 : Int32} {Q : Int32 → gw_H → Prop}  (hw : wp_X5_imagine h p1 Q) : gw_C l yX5_imagine cX5_imagine 2 none 5 124 vC ad [.ref (ad 0), .int p1] h Q := by
  refine gw_entry (own := RX5) [some (.ref (ad 0)), some (.int p1)] pl_X5 rfl rfl (Nat.le_of_ble_eq_true rfl) rfl (fun X => ?_)
  unfold wp_X5_imagine at hw
  refine gw_aload_n dX5_imagine_0 rfl rfl ?_
  refine gw_getf (k := 1) (v := .ref (ad 24)) oX5 clX5 inUX5 (Nat.le_of_ble_eq_true rfl) rfl lfX5_16 rfl dX5_imagine_1 ?_
  refine gw_aload_n dX5_imagine_4 rfl rfl ?_
  refine gw_getf (k := 0) (v := .ref (ad 1)) oX5 clX5 inUX5 (Nat.le_of_ble_eq_true rfl) rfl lfX5_10 rfl dX5_imagine_5 ?_
  refine gw_callVv (As := [.ref (ad 1)]) (rest := []) rfl (gc_X2_takeAs hb24 hb1 hw) mX2_takeAs lmX5_181 (oX2 hb24) clX2 rfl rfl ⟨Nat.le_of_ble_eq_true rfl, Nat.le_of_ble_eq_true rfl⟩ (Nat.le_of_ble_eq_true rfl) dX5_imagine_8 (fun h_1 hw => ?_)
  refine gw_aload_n dX5_imagine_11 rfl rfl ?_
  refine gw_getf (k := 1) (v := .ref (ad 24)) oX5 clX5 inUX5 (Nat.le_of_ble_eq_true rfl) rfl lfX5_16 rfl dX5_imagine_12 ?_
  refine gw_iload_n dX5_imagine_15 rfl rfl ?_
  refine gw_callVv (As := [.int p1]) (rest := []) rfl (gc_X2_passHours hb24 hw) mX2_passHours lmX5_199 (oX2 hb24) clX2 rfl rfl ⟨Nat.le_of_ble_eq_true rfl, Nat.le_of_ble_eq_true rfl⟩ (Nat.le_of_ble_eq_true rfl) dX5_imagine_16 (fun h_2 hw => ?_)
  exact gw_return hw rfl dX5_imagine_19
def wp_X5_first (h : gw_H) (p1 : Int32) (p2 : Int32) (Q : Int32 → gw_H → Prop) : Prop :=
  (wp_X5_headAndHours h p1 p2 (fun r_2 h_1 => ((r_2 = 0 → (wp_X5_imagine h_1 p2 (fun _ h_4 => (wp_X5_at h_4 (41) 6 p1 (fun r_6 h_5 => Q r_6 h_5))))) ∧ (¬ r_2 = 0 → (wp_X5_refuse h_1 r_2 (fun r_8 h_7 => Q r_8 h_7))))))
set_option maxRecDepth 100000 in
set_option maxHeartbeats 4000000 in
theorem gc_X5_first {l : Launch} {ad : Nat → Nat} {h : gw_H} {p1 : Int32} {p2 : Int32} {Q : Int32 → gw_H → Prop}  (hw : wp_X5_first h p1 p2 Q) : gw_C l yX5_first cX5_first 4 (some .int) 6 145 vC ad [.ref (ad 0), .int p1, .int p2] h Q := by
  refine gw_entry (own := RX5) [some (.ref (ad 0)), some (.int p1), some (.int p2), none] pl_X5 rfl rfl (Nat.le_of_ble_eq_true rfl) rfl (fun X => ?_)
  unfold wp_X5_first at hw
  refine gw_aload_n dX5_first_0 rfl rfl ?_
  refine gw_iload_n dX5_first_1 rfl rfl ?_
  refine gw_iload_n dX5_first_2 rfl rfl ?_
  refine gw_callVi (As := [.int p1, .int p2]) (rest := []) rfl (gc_X5_headAndHours  hw) mX5_headAndHours lmX5_168 oX5 clX5 rfl rfl ⟨Nat.le_of_ble_eq_true rfl, Nat.le_of_ble_eq_true rfl⟩ (Nat.le_of_ble_eq_true rfl) dX5_first_3 (fun r_2 h_1 hw => ?_)
  refine gw_istore_n (ls' := [some (.ref (ad 0)), some (.int p1), some (.int p2), some (.int r_2)]) dX5_first_6 rfl (Nat.le_of_ble_eq_true rfl) rfl ?_
  refine gw_iload_n dX5_first_7 rfl rfl ?_
  refine gw_if_eq (tgt := 17) dX5_first_8 (by decide) (fun c_3 => ?_) (fun c_3 => ?_)
  · have hw := hw.1 c_3
    refine gw_aload_n dX5_first_17 rfl rfl ?_
    refine gw_iload_n dX5_first_18 rfl rfl ?_
    refine gw_callVv (As := [.int p2]) (rest := []) rfl (gc_X5_imagine  hw) mX5_imagine lmX5_175 oX5 clX5 rfl rfl ⟨Nat.le_of_ble_eq_true rfl, Nat.le_of_ble_eq_true rfl⟩ (Nat.le_of_ble_eq_true rfl) dX5_first_19 (fun h_4 hw => ?_)
    refine gw_aload_n dX5_first_22 rfl rfl ?_
    refine gw_getf (k := 1) (v := .ref (ad 24)) oX5 clX5 inUX5 (Nat.le_of_ble_eq_true rfl) rfl lfX5_16 rfl dX5_first_23 ?_
    refine gw_getfN (k := 2) (v := .ref (ad 33)) (oX2 hb24) clX2 inUX2 (Nat.le_of_ble_eq_true rfl) rfl lfX5_96 rfl dX5_first_26 ?_
    refine gw_getfN (k := 7) (v := .ref (ad 41)) (oX1 hb24) clX1 inUX1 (Nat.le_of_ble_eq_true rfl) rfl lfX5_189 rfl dX5_first_29 ?_
    refine gw_iload_n dX5_first_32 rfl rfl ?_
    refine gw_callSi (As := [.ref (ad 41), .int p1]) (rest := []) rfl (gc_X5_at (ar_17 hb24) hw) mX5_at lmX5_83 rfl rfl ⟨Nat.le_of_ble_eq_true rfl, Nat.le_of_ble_eq_true rfl⟩ (Nat.le_of_ble_eq_true rfl) dX5_first_33 (fun r_6 h_5 hw => ?_)
    exact gw_ireturn (ty := .int) hw rfl rfl dX5_first_36
  · have hw := hw.2 c_3
    refine gw_aload_n dX5_first_11 rfl rfl ?_
    refine gw_iload_n dX5_first_12 rfl rfl ?_
    refine gw_callVi (As := [.int r_2]) (rest := []) rfl (gc_X5_refuse  hw) mX5_refuse lmX5_48 oX5 clX5 rfl rfl ⟨Nat.le_of_ble_eq_true rfl, Nat.le_of_ble_eq_true rfl⟩ (Nat.le_of_ble_eq_true rfl) dX5_first_13 (fun r_8 h_7 hw => ?_)
    exact gw_ireturn (ty := .int) hw rfl rfl dX5_first_16
def wp_X5_from (h : gw_H) (p1 : Int32) (p2 : Int32) (Q : Int32 → gw_H → Prop) : Prop :=
  (wp_X5_headAndHours h p1 p2 (fun r_2 h_1 => ((r_2 = 0 → (wp_X5_imagine h_1 p2 (fun _ h_4 => (wp_X5_at h_4 (40) 6 p1 (fun r_6 h_5 => Q r_6 h_5))))) ∧ (¬ r_2 = 0 → (wp_X5_refuse h_1 r_2 (fun r_8 h_7 => Q r_8 h_7))))))
set_option maxRecDepth 100000 in
set_option maxHeartbeats 4000000 in
theorem gc_X5_from {l : Launch} {ad : Nat → Nat} {h : gw_H} {p1 : Int32} {p2 : Int32} {Q : Int32 → gw_H → Prop}  (hw : wp_X5_from h p1 p2 Q) : gw_C l yX5_from cX5_from 4 (some .int) 6 145 vC ad [.ref (ad 0), .int p1, .int p2] h Q := by
  refine gw_entry (own := RX5) [some (.ref (ad 0)), some (.int p1), some (.int p2), none] pl_X5 rfl rfl (Nat.le_of_ble_eq_true rfl) rfl (fun X => ?_)
  unfold wp_X5_from at hw
  refine gw_aload_n dX5_from_0 rfl rfl ?_
  refine gw_iload_n dX5_from_1 rfl rfl ?_
  refine gw_iload_n dX5_from_2 rfl rfl ?_
  refine gw_callVi (As := [.int p1, .int p2]) (rest := []) rfl (gc_X5_headAndHours  hw) mX5_headAndHours lmX5_168 oX5 clX5 rfl rfl ⟨Nat.le_of_ble_eq_true rfl, Nat.le_of_ble_eq_true rfl⟩ (Nat.le_of_ble_eq_true rfl) dX5_from_3 (fun r_2 h_1 hw => ?_)
  refine gw_istore_n (ls' := [some (.ref (ad 0)), some (.int p1), some (.int p2), some (.int r_2)]) dX5_from_6 rfl (Nat.le_of_ble_eq_true rfl) rfl ?_
  refine gw_iload_n dX5_from_7 rfl rfl ?_
  refine gw_if_eq (tgt := 17) dX5_from_8 (by decide) (fun c_3 => ?_) (fun c_3 => ?_)
  · have hw := hw.1 c_3
    refine gw_aload_n dX5_from_17 rfl rfl ?_
    refine gw_iload_n dX5_from_18 rfl rfl ?_
    refine gw_callVv (As := [.int p2]) (rest := []) rfl (gc_X5_imagine  hw) mX5_imagine lmX5_175 oX5 clX5 rfl rfl ⟨Nat.le_of_ble_eq_true rfl, Nat.le_of_ble_eq_true rfl⟩ (Nat.le_of_ble_eq_true rfl) dX5_from_19 (fun h_4 hw => ?_)
    refine gw_aload_n dX5_from_22 rfl rfl ?_
    refine gw_getf (k := 1) (v := .ref (ad 24)) oX5 clX5 inUX5 (Nat.le_of_ble_eq_true rfl) rfl lfX5_16 rfl dX5_from_23 ?_
    refine gw_getfN (k := 2) (v := .ref (ad 33)) (oX2 hb24) clX2 inUX2 (Nat.le_of_ble_eq_true rfl) rfl lfX5_96 rfl dX5_from_26 ?_
    refine gw_getfN (k := 6) (v := .ref (ad 40)) (oX1 hb24) clX1 inUX1 (Nat.le_of_ble_eq_true rfl) rfl lfX5_186 rfl dX5_from_29 ?_
    refine gw_iload_n dX5_from_32 rfl rfl ?_
    refine gw_callSi (As := [.ref (ad 40), .int p1]) (rest := []) rfl (gc_X5_at (ar_16 hb24) hw) mX5_at lmX5_83 rfl rfl ⟨Nat.le_of_ble_eq_true rfl, Nat.le_of_ble_eq_true rfl⟩ (Nat.le_of_ble_eq_true rfl) dX5_from_33 (fun r_6 h_5 hw => ?_)
    exact gw_ireturn (ty := .int) hw rfl rfl dX5_from_36
  · have hw := hw.2 c_3
    refine gw_aload_n dX5_from_11 rfl rfl ?_
    refine gw_iload_n dX5_from_12 rfl rfl ?_
    refine gw_callVi (As := [.int r_2]) (rest := []) rfl (gc_X5_refuse  hw) mX5_refuse lmX5_48 oX5 clX5 rfl rfl ⟨Nat.le_of_ble_eq_true rfl, Nat.le_of_ble_eq_true rfl⟩ (Nat.le_of_ble_eq_true rfl) dX5_from_13 (fun r_8 h_7 hw => ?_)
    exact gw_ireturn (ty := .int) hw rfl rfl dX5_from_16
def wk_X5_get_33 (p1 : Int32) (p2 : Int32)  (Q : Int32 → gw_H → Prop) : gw_H → Prop :=
  fun h => (wp_X5_refuse h (-1 : Int32) (fun r_5 h_4 => Q r_5 h_4))
set_option maxRecDepth 100000 in
set_option maxHeartbeats 4000000 in
theorem tk_X5_get_33 {l : Launch} {ad : Nat → Nat} {X : gw_X} {p1 : Int32} {p2 : Int32}  {Q : Int32 → gw_H → Prop}    (h : gw_H) (hw : wk_X5_get_33 p1 p2  Q h) : gw_G l vC ad cX5_get RX5 4 (some .int) 3 69 Q X h 33 [some (.ref (ad 0)), some (.int p1), some (.int p2), none] [] := by
  unfold wk_X5_get_33 at hw
  refine gw_aload_n dX5_get_33 rfl rfl ?_
  refine gw_iconst dX5_get_34 ic_m1 ?_
  refine gw_callVi (As := [.int (-1 : Int32)]) (rest := []) rfl (gc_X5_refuse  hw) mX5_refuse lmX5_48 oX5 clX5 rfl rfl ⟨Nat.le_of_ble_eq_true rfl, Nat.le_of_ble_eq_true rfl⟩ (Nat.le_of_ble_eq_true rfl) dX5_get_35 (fun r_5 h_4 hw => ?_)
  exact gw_ireturn (ty := .int) hw rfl rfl dX5_get_38
def wk_X5_get_39 (p1 : Int32) (p2 : Int32)  (Q : Int32 → gw_H → Prop) : gw_H → Prop :=
  fun h => (wp_X5_at h (14) 6 p1 (fun r_8 h_7 => (wp_X2_give h_7 1 p1 p2 (fun _ h_9 => Q r_8 h_9))))
set_option maxRecDepth 100000 in
set_option maxHeartbeats 4000000 in
theorem tk_X5_get_39 {l : Launch} {ad : Nat → Nat} {X : gw_X} {p1 : Int32} {p2 : Int32}  {Q : Int32 → gw_H → Prop}    (h : gw_H) (hw : wk_X5_get_39 p1 p2  Q h) : gw_G l vC ad cX5_get RX5 4 (some .int) 3 69 Q X h 39 [some (.ref (ad 0)), some (.int p1), some (.int p2), none] [] := by
  unfold wk_X5_get_39 at hw
  refine gw_aload_n dX5_get_39 rfl rfl ?_
  refine gw_getf (k := 0) (v := .ref (ad 1)) oX5 clX5 inUX5 (Nat.le_of_ble_eq_true rfl) rfl lfX5_10 rfl dX5_get_40 ?_
  refine gw_getfN (k := 2) (v := .ref (ad 10)) (oX2 hb1) clX2 inUX2 (Nat.le_of_ble_eq_true rfl) rfl lfX5_96 rfl dX5_get_43 ?_
  refine gw_getfN (k := 3) (v := .ref (ad 14)) (oX1 hb1) clX1 inUX1 (Nat.le_of_ble_eq_true rfl) rfl lfX5_113 rfl dX5_get_46 ?_
  refine gw_iload_n dX5_get_49 rfl rfl ?_
  refine gw_callSi (As := [.ref (ad 14), .int p1]) (rest := []) rfl (gc_X5_at (ar_13 hb1) hw) mX5_at lmX5_83 rfl rfl ⟨Nat.le_of_ble_eq_true rfl, Nat.le_of_ble_eq_true rfl⟩ (Nat.le_of_ble_eq_true rfl) dX5_get_50 (fun r_8 h_7 hw => ?_)
  refine gw_istore_n (ls' := [some (.ref (ad 0)), some (.int p1), some (.int p2), some (.int r_8)]) dX5_get_53 rfl (Nat.le_of_ble_eq_true rfl) rfl ?_
  refine gw_aload_n dX5_get_54 rfl rfl ?_
  refine gw_getf (k := 0) (v := .ref (ad 1)) oX5 clX5 inUX5 (Nat.le_of_ble_eq_true rfl) rfl lfX5_10 rfl dX5_get_55 ?_
  refine gw_iload_n dX5_get_58 rfl rfl ?_
  refine gw_iload_n dX5_get_59 rfl rfl ?_
  refine gw_callVv (As := [.int p1, .int p2]) (rest := []) rfl (gc_X2_give hb1 hw) mX2_give lmX5_155 (oX2 hb1) clX2 rfl rfl ⟨Nat.le_of_ble_eq_true rfl, Nat.le_of_ble_eq_true rfl⟩ (Nat.le_of_ble_eq_true rfl) dX5_get_60 (fun h_9 hw => ?_)
  refine gw_iload_n dX5_get_63 rfl rfl ?_
  exact gw_ireturn (ty := .int) hw rfl rfl dX5_get_64
def wp_X5_get (h : gw_H) (p1 : Int32) (p2 : Int32) (Q : Int32 → gw_H → Prop) : Prop :=
  (wp_X1_has h 1 p1 (fun r_2 h_1 => ((r_2 = 0 → (wk_X5_get_33 p1 p2  Q h_1)) ∧ (¬ r_2 = 0 → ((p2 = (-1 : Int32) → (wk_X5_get_39 p1 p2  Q h_1)) ∧ (¬ p2 = (-1 : Int32) → (wp_X3_has h_1 1 p2 (fun r_11 h_10 => ((¬ r_11 = 0 → (wk_X5_get_39 p1 p2  Q h_10)) ∧ (r_11 = 0 → (wk_X5_get_33 p1 p2  Q h_10)))))))))))
set_option maxRecDepth 100000 in
set_option maxHeartbeats 4000000 in
theorem gc_X5_get {l : Launch} {ad : Nat → Nat} {h : gw_H} {p1 : Int32} {p2 : Int32} {Q : Int32 → gw_H → Prop}  (hw : wp_X5_get h p1 p2 Q) : gw_C l yX5_get cX5_get 4 (some .int) 3 69 vC ad [.ref (ad 0), .int p1, .int p2] h Q := by
  refine gw_entry (own := RX5) [some (.ref (ad 0)), some (.int p1), some (.int p2), none] pl_X5 rfl rfl (Nat.le_of_ble_eq_true rfl) rfl (fun X => ?_)
  unfold wp_X5_get at hw
  refine gw_aload_n dX5_get_0 rfl rfl ?_
  refine gw_getf (k := 0) (v := .ref (ad 1)) oX5 clX5 inUX5 (Nat.le_of_ble_eq_true rfl) rfl lfX5_10 rfl dX5_get_1 ?_
  refine gw_getfN (k := 2) (v := .ref (ad 10)) (oX2 hb1) clX2 inUX2 (Nat.le_of_ble_eq_true rfl) rfl lfX5_96 rfl dX5_get_4 ?_
  refine gw_iload_n dX5_get_7 rfl rfl ?_
  refine gw_callVi (As := [.int p1]) (rest := []) rfl (gc_X1_has hb1 hw) mX1_has lmX5_105 (oX1 hb1) clX1 rfl rfl ⟨Nat.le_of_ble_eq_true rfl, Nat.le_of_ble_eq_true rfl⟩ (Nat.le_of_ble_eq_true rfl) dX5_get_8 (fun r_2 h_1 hw => ?_)
  refine gw_if_eq (tgt := 33) dX5_get_11 (by decide) (fun c_3 => ?_) (fun c_3 => ?_)
  · have hw := hw.1 c_3
    exact tk_X5_get_33   h_1 hw
  · have hw := hw.2 c_3
    refine gw_iload_n dX5_get_14 rfl rfl ?_
    refine gw_iconst dX5_get_15 ic_m1 ?_
    refine gw_icmp_eq (tgt := 39) dX5_get_16 (by decide) (fun c_6 => ?_) (fun c_6 => ?_)
    · have hw := hw.1 c_6
      exact tk_X5_get_39   h_1 hw
    · have hw := hw.2 c_6
      refine gw_aload_n dX5_get_19 rfl rfl ?_
      refine gw_getf (k := 0) (v := .ref (ad 1)) oX5 clX5 inUX5 (Nat.le_of_ble_eq_true rfl) rfl lfX5_10 rfl dX5_get_20 ?_
      refine gw_getfN (k := 1) (v := .ref (ad 6)) (oX2 hb1) clX2 inUX2 (Nat.le_of_ble_eq_true rfl) rfl lfX5_70 rfl dX5_get_23 ?_
      refine gw_iload_n dX5_get_26 rfl rfl ?_
      refine gw_callVi (As := [.int p2]) (rest := []) rfl (gc_X3_has hb1 hw) mX3_has lmX5_74 (oX3 hb1) clX3 rfl rfl ⟨Nat.le_of_ble_eq_true rfl, Nat.le_of_ble_eq_true rfl⟩ (Nat.le_of_ble_eq_true rfl) dX5_get_27 (fun r_11 h_10 hw => ?_)
      refine gw_if_ne (tgt := 39) dX5_get_30 (by decide) (fun c_12 => ?_) (fun c_12 => ?_)
      · have hw := hw.1 c_12
        exact tk_X5_get_39   h_10 hw
      · have hw := hw.2 c_12
        exact tk_X5_get_33   h_10 hw
def wp_X5_giveInMind (h : gw_H) (p1 : Int32) (p2 : Int32) (Q : Int32 → gw_H → Prop) : Prop :=
  (wp_X1_has h 24 p1 (fun r_2 h_1 => ((r_2 = 0 → Q (0 : Int32) h_1) ∧ (¬ r_2 = 0 → (wp_X3_has h_1 24 p2 (fun r_5 h_4 => ((¬ r_5 = 0 → (wp_X2_give h_4 24 p1 p2 (fun _ h_7 => Q (1 : Int32) h_7))) ∧ (r_5 = 0 → Q (0 : Int32) h_4))))))))
set_option maxRecDepth 100000 in
set_option maxHeartbeats 4000000 in
theorem gc_X5_giveInMind {l : Launch} {ad : Nat → Nat} {h : gw_H} {p1 : Int32} {p2 : Int32} {Q : Int32 → gw_H → Prop}  (hw : wp_X5_giveInMind h p1 p2 Q) : gw_C l yX5_giveInMind cX5_giveInMind 3 (some .boolean) 3 69 vC ad [.ref (ad 0), .int p1, .int p2] h Q := by
  refine gw_entry (own := RX5) [some (.ref (ad 0)), some (.int p1), some (.int p2)] pl_X5 rfl rfl (Nat.le_of_ble_eq_true rfl) rfl (fun X => ?_)
  unfold wp_X5_giveInMind at hw
  refine gw_aload_n dX5_giveInMind_0 rfl rfl ?_
  refine gw_getf (k := 1) (v := .ref (ad 24)) oX5 clX5 inUX5 (Nat.le_of_ble_eq_true rfl) rfl lfX5_16 rfl dX5_giveInMind_1 ?_
  refine gw_getfN (k := 2) (v := .ref (ad 33)) (oX2 hb24) clX2 inUX2 (Nat.le_of_ble_eq_true rfl) rfl lfX5_96 rfl dX5_giveInMind_4 ?_
  refine gw_iload_n dX5_giveInMind_7 rfl rfl ?_
  refine gw_callVi (As := [.int p1]) (rest := []) rfl (gc_X1_has hb24 hw) mX1_has lmX5_105 (oX1 hb24) clX1 rfl rfl ⟨Nat.le_of_ble_eq_true rfl, Nat.le_of_ble_eq_true rfl⟩ (Nat.le_of_ble_eq_true rfl) dX5_giveInMind_8 (fun r_2 h_1 hw => ?_)
  refine gw_if_eq (tgt := 28) dX5_giveInMind_11 (by decide) (fun c_3 => ?_) (fun c_3 => ?_)
  · have hw := hw.1 c_3
    refine gw_iconst dX5_giveInMind_28 ic_0 ?_
    exact gw_ireturn (ty := .boolean) hw rfl rfl dX5_giveInMind_29
  · have hw := hw.2 c_3
    refine gw_aload_n dX5_giveInMind_14 rfl rfl ?_
    refine gw_getf (k := 1) (v := .ref (ad 24)) oX5 clX5 inUX5 (Nat.le_of_ble_eq_true rfl) rfl lfX5_16 rfl dX5_giveInMind_15 ?_
    refine gw_getfN (k := 1) (v := .ref (ad 29)) (oX2 hb24) clX2 inUX2 (Nat.le_of_ble_eq_true rfl) rfl lfX5_70 rfl dX5_giveInMind_18 ?_
    refine gw_iload_n dX5_giveInMind_21 rfl rfl ?_
    refine gw_callVi (As := [.int p2]) (rest := []) rfl (gc_X3_has hb24 hw) mX3_has lmX5_74 (oX3 hb24) clX3 rfl rfl ⟨Nat.le_of_ble_eq_true rfl, Nat.le_of_ble_eq_true rfl⟩ (Nat.le_of_ble_eq_true rfl) dX5_giveInMind_22 (fun r_5 h_4 hw => ?_)
    refine gw_if_ne (tgt := 30) dX5_giveInMind_25 (by decide) (fun c_6 => ?_) (fun c_6 => ?_)
    · have hw := hw.1 c_6
      refine gw_aload_n dX5_giveInMind_30 rfl rfl ?_
      refine gw_getf (k := 1) (v := .ref (ad 24)) oX5 clX5 inUX5 (Nat.le_of_ble_eq_true rfl) rfl lfX5_16 rfl dX5_giveInMind_31 ?_
      refine gw_iload_n dX5_giveInMind_34 rfl rfl ?_
      refine gw_iload_n dX5_giveInMind_35 rfl rfl ?_
      refine gw_callVv (As := [.int p1, .int p2]) (rest := []) rfl (gc_X2_give hb24 hw) mX2_give lmX5_155 (oX2 hb24) clX2 rfl rfl ⟨Nat.le_of_ble_eq_true rfl, Nat.le_of_ble_eq_true rfl⟩ (Nat.le_of_ble_eq_true rfl) dX5_giveInMind_36 (fun h_7 hw => ?_)
      refine gw_iconst dX5_giveInMind_39 ic_1 ?_
      exact gw_ireturn (ty := .boolean) hw rfl rfl dX5_giveInMind_40
    · have hw := hw.2 c_6
      refine gw_iconst dX5_giveInMind_28 ic_0 ?_
      exact gw_ireturn (ty := .boolean) hw rfl rfl dX5_giveInMind_29
def wk_X5_go_21 (p1 : Int32) (p2 : Int32)  (Q : Int32 → gw_H → Prop) : gw_H → Prop :=
  fun h => (wp_X5_refuse h (-1 : Int32) (fun r_5 h_4 => Q r_5 h_4))
set_option maxRecDepth 100000 in
set_option maxHeartbeats 4000000 in
theorem tk_X5_go_21 {l : Launch} {ad : Nat → Nat} {X : gw_X} {p1 : Int32} {p2 : Int32}  {Q : Int32 → gw_H → Prop}    (h : gw_H) (hw : wk_X5_go_21 p1 p2  Q h) : gw_G l vC ad cX5_go RX5 4 (some .int) 2 43 Q X h 21 [some (.ref (ad 0)), some (.int p1), some (.int p2), none] [] := by
  unfold wk_X5_go_21 at hw
  refine gw_aload_n dX5_go_21 rfl rfl ?_
  refine gw_iconst dX5_go_22 ic_m1 ?_
  refine gw_callVi (As := [.int (-1 : Int32)]) (rest := []) rfl (gc_X5_refuse  hw) mX5_refuse lmX5_48 oX5 clX5 rfl rfl ⟨Nat.le_of_ble_eq_true rfl, Nat.le_of_ble_eq_true rfl⟩ (Nat.le_of_ble_eq_true rfl) dX5_go_23 (fun r_5 h_4 hw => ?_)
  exact gw_ireturn (ty := .int) hw rfl rfl dX5_go_26
def wp_X5_go (h : gw_H) (p1 : Int32) (p2 : Int32) (Q : Int32 → gw_H → Prop) : Prop :=
  (wp_X1_has h 1 p1 (fun r_2 h_1 => ((r_2 = 0 → (wk_X5_go_21 p1 p2  Q h_1)) ∧ (¬ r_2 = 0 → (wp_X5_isRoom h_1 p2 (fun r_7 h_6 => ((¬ r_7 = 0 → (wp_X5_at h_6 (12) 6 p1 (fun r_10 h_9 => (wp_X5_put h_9 (12) 6 p1 p2 (fun _ h_11 => Q r_10 h_11))))) ∧ (r_7 = 0 → (wk_X5_go_21 p1 p2  Q h_6)))))))))
set_option maxRecDepth 100000 in
set_option maxHeartbeats 4000000 in
theorem gc_X5_go {l : Launch} {ad : Nat → Nat} {h : gw_H} {p1 : Int32} {p2 : Int32} {Q : Int32 → gw_H → Prop}  (hw : wp_X5_go h p1 p2 Q) : gw_C l yX5_go cX5_go 4 (some .int) 2 43 vC ad [.ref (ad 0), .int p1, .int p2] h Q := by
  refine gw_entry (own := RX5) [some (.ref (ad 0)), some (.int p1), some (.int p2), none] pl_X5 rfl rfl (Nat.le_of_ble_eq_true rfl) rfl (fun X => ?_)
  unfold wp_X5_go at hw
  refine gw_aload_n dX5_go_0 rfl rfl ?_
  refine gw_getf (k := 0) (v := .ref (ad 1)) oX5 clX5 inUX5 (Nat.le_of_ble_eq_true rfl) rfl lfX5_10 rfl dX5_go_1 ?_
  refine gw_getfN (k := 2) (v := .ref (ad 10)) (oX2 hb1) clX2 inUX2 (Nat.le_of_ble_eq_true rfl) rfl lfX5_96 rfl dX5_go_4 ?_
  refine gw_iload_n dX5_go_7 rfl rfl ?_
  refine gw_callVi (As := [.int p1]) (rest := []) rfl (gc_X1_has hb1 hw) mX1_has lmX5_105 (oX1 hb1) clX1 rfl rfl ⟨Nat.le_of_ble_eq_true rfl, Nat.le_of_ble_eq_true rfl⟩ (Nat.le_of_ble_eq_true rfl) dX5_go_8 (fun r_2 h_1 hw => ?_)
  refine gw_if_eq (tgt := 21) dX5_go_11 (by decide) (fun c_3 => ?_) (fun c_3 => ?_)
  · have hw := hw.1 c_3
    exact tk_X5_go_21   h_1 hw
  · have hw := hw.2 c_3
    refine gw_iload_n dX5_go_14 rfl rfl ?_
    refine gw_callSi (As := [.int p2]) (rest := []) rfl (gc_X5_isRoom  hw) mX5_isRoom lmX5_148 rfl rfl ⟨Nat.le_of_ble_eq_true rfl, Nat.le_of_ble_eq_true rfl⟩ (Nat.le_of_ble_eq_true rfl) dX5_go_15 (fun r_7 h_6 hw => ?_)
    refine gw_if_ne (tgt := 27) dX5_go_18 (by decide) (fun c_8 => ?_) (fun c_8 => ?_)
    · have hw := hw.1 c_8
      refine gw_aload_n dX5_go_27 rfl rfl ?_
      refine gw_getf (k := 0) (v := .ref (ad 1)) oX5 clX5 inUX5 (Nat.le_of_ble_eq_true rfl) rfl lfX5_10 rfl dX5_go_28 ?_
      refine gw_getfN (k := 2) (v := .ref (ad 10)) (oX2 hb1) clX2 inUX2 (Nat.le_of_ble_eq_true rfl) rfl lfX5_96 rfl dX5_go_31 ?_
      refine gw_getfN (k := 1) (v := .ref (ad 12)) (oX1 hb1) clX1 inUX1 (Nat.le_of_ble_eq_true rfl) rfl lfX5_107 rfl dX5_go_34 ?_
      refine gw_iload_n dX5_go_37 rfl rfl ?_
      refine gw_callSi (As := [.ref (ad 12), .int p1]) (rest := []) rfl (gc_X5_at (ar_11 hb1) hw) mX5_at lmX5_83 rfl rfl ⟨Nat.le_of_ble_eq_true rfl, Nat.le_of_ble_eq_true rfl⟩ (Nat.le_of_ble_eq_true rfl) dX5_go_38 (fun r_10 h_9 hw => ?_)
      refine gw_istore_n (ls' := [some (.ref (ad 0)), some (.int p1), some (.int p2), some (.int r_10)]) dX5_go_41 rfl (Nat.le_of_ble_eq_true rfl) rfl ?_
      refine gw_aload_n dX5_go_42 rfl rfl ?_
      refine gw_getf (k := 0) (v := .ref (ad 1)) oX5 clX5 inUX5 (Nat.le_of_ble_eq_true rfl) rfl lfX5_10 rfl dX5_go_43 ?_
      refine gw_getfN (k := 2) (v := .ref (ad 10)) (oX2 hb1) clX2 inUX2 (Nat.le_of_ble_eq_true rfl) rfl lfX5_96 rfl dX5_go_46 ?_
      refine gw_getfN (k := 1) (v := .ref (ad 12)) (oX1 hb1) clX1 inUX1 (Nat.le_of_ble_eq_true rfl) rfl lfX5_107 rfl dX5_go_49 ?_
      refine gw_iload_n dX5_go_52 rfl rfl ?_
      refine gw_iload_n dX5_go_53 rfl rfl ?_
      refine gw_callSv (As := [.ref (ad 12), .int p1, .int p2]) (rest := []) rfl (gc_X5_put (ar_11 hb1) hw) mX5_put lmX5_151 rfl rfl ⟨Nat.le_of_ble_eq_true rfl, Nat.le_of_ble_eq_true rfl⟩ (Nat.le_of_ble_eq_true rfl) dX5_go_54 (fun h_11 hw => ?_)
      refine gw_iload_n dX5_go_57 rfl rfl ?_
      exact gw_ireturn (ty := .int) hw rfl rfl dX5_go_58
    · have hw := hw.2 c_8
      exact tk_X5_go_21   h_6 hw
def wk_X5_songAndHours_19 (p1 : Int32) (p2 : Int32)  (Q : Int32 → gw_H → Prop) : gw_H → Prop :=
  fun h => (wp_X5_outside h p2 (0 : Int32) (60 : Int32) (fun r_3 h_2 => Q r_3 h_2))
set_option maxRecDepth 100000 in
set_option maxHeartbeats 4000000 in
theorem tk_X5_songAndHours_19 {l : Launch} {ad : Nat → Nat} {X : gw_X} {p1 : Int32} {p2 : Int32}  {Q : Int32 → gw_H → Prop}    (h : gw_H) (hw : wk_X5_songAndHours_19 p1 p2  Q h) : gw_G l vC ad cX5_songAndHours RX5 3 (some .int) 1 22 Q X h 19 [some (.ref (ad 0)), some (.int p1), some (.int p2)] [] := by
  unfold wk_X5_songAndHours_19 at hw
  refine gw_iload_n dX5_songAndHours_19 rfl rfl ?_
  refine gw_iconst dX5_songAndHours_20 ic_0 ?_
  refine gw_bipush dX5_songAndHours_21 bp_60 ?_
  refine gw_callSi (As := [.int p2, .int (0 : Int32), .int (60 : Int32)]) (rest := []) rfl (gc_X5_outside  hw) mX5_outside lmX5_44 rfl rfl ⟨Nat.le_of_ble_eq_true rfl, Nat.le_of_ble_eq_true rfl⟩ (Nat.le_of_ble_eq_true rfl) dX5_songAndHours_23 (fun r_3 h_2 hw => ?_)
  refine gw_goto (tgt := 30) dX5_songAndHours_26 (by decide) ?_
  exact gw_ireturn (ty := .int) hw rfl rfl dX5_songAndHours_30
def wp_X5_songAndHours (h : gw_H) (p1 : Int32) (p2 : Int32) (Q : Int32 → gw_H → Prop) : Prop :=
  ((p1 = (-1 : Int32) → (wk_X5_songAndHours_19 p1 p2  Q h)) ∧ (¬ p1 = (-1 : Int32) → (wp_X3_has h 1 p1 (fun r_5 h_4 => ((r_5 = 0 → Q (-1 : Int32) h_4) ∧ (¬ r_5 = 0 → (wk_X5_songAndHours_19 p1 p2  Q h_4)))))))
set_option maxRecDepth 100000 in
set_option maxHeartbeats 4000000 in
theorem gc_X5_songAndHours {l : Launch} {ad : Nat → Nat} {h : gw_H} {p1 : Int32} {p2 : Int32} {Q : Int32 → gw_H → Prop}  (hw : wp_X5_songAndHours h p1 p2 Q) : gw_C l yX5_songAndHours cX5_songAndHours 3 (some .int) 1 22 vC ad [.ref (ad 0), .int p1, .int p2] h Q := by
  refine gw_entry (own := RX5) [some (.ref (ad 0)), some (.int p1), some (.int p2)] pl_X5 rfl rfl (Nat.le_of_ble_eq_true rfl) rfl (fun X => ?_)
  unfold wp_X5_songAndHours at hw
  refine gw_iload_n dX5_songAndHours_0 rfl rfl ?_
  refine gw_iconst dX5_songAndHours_1 ic_m1 ?_
  refine gw_icmp_eq (tgt := 19) dX5_songAndHours_2 (by decide) (fun c_1 => ?_) (fun c_1 => ?_)
  · have hw := hw.1 c_1
    exact tk_X5_songAndHours_19   h hw
  · have hw := hw.2 c_1
    refine gw_aload_n dX5_songAndHours_5 rfl rfl ?_
    refine gw_getf (k := 0) (v := .ref (ad 1)) oX5 clX5 inUX5 (Nat.le_of_ble_eq_true rfl) rfl lfX5_10 rfl dX5_songAndHours_6 ?_
    refine gw_getfN (k := 1) (v := .ref (ad 6)) (oX2 hb1) clX2 inUX2 (Nat.le_of_ble_eq_true rfl) rfl lfX5_70 rfl dX5_songAndHours_9 ?_
    refine gw_iload_n dX5_songAndHours_12 rfl rfl ?_
    refine gw_callVi (As := [.int p1]) (rest := []) rfl (gc_X3_has hb1 hw) mX3_has lmX5_74 (oX3 hb1) clX3 rfl rfl ⟨Nat.le_of_ble_eq_true rfl, Nat.le_of_ble_eq_true rfl⟩ (Nat.le_of_ble_eq_true rfl) dX5_songAndHours_13 (fun r_5 h_4 hw => ?_)
    refine gw_if_eq (tgt := 29) dX5_songAndHours_16 (by decide) (fun c_6 => ?_) (fun c_6 => ?_)
    · have hw := hw.1 c_6
      refine gw_iconst dX5_songAndHours_29 ic_m1 ?_
      exact gw_ireturn (ty := .int) hw rfl rfl dX5_songAndHours_30
    · have hw := hw.2 c_6
      exact tk_X5_songAndHours_19   h_4 hw
def wp_X5_have (h : gw_H) (p1 : Int32) (p2 : Int32) (Q : Int32 → gw_H → Prop) : Prop :=
  (wp_X5_songAndHours h p1 p2 (fun r_2 h_1 => ((r_2 = 0 → (wp_X5_imagine h_1 p2 (fun _ h_4 => (wp_X1_holders h_4 24 p1 (fun r_6 h_5 => Q r_6 h_5))))) ∧ (¬ r_2 = 0 → (wp_X5_refuse h_1 r_2 (fun r_8 h_7 => Q r_8 h_7))))))
set_option maxRecDepth 100000 in
set_option maxHeartbeats 4000000 in
theorem gc_X5_have {l : Launch} {ad : Nat → Nat} {h : gw_H} {p1 : Int32} {p2 : Int32} {Q : Int32 → gw_H → Prop}  (hw : wp_X5_have h p1 p2 Q) : gw_C l yX5_have cX5_have 4 (some .int) 6 145 vC ad [.ref (ad 0), .int p1, .int p2] h Q := by
  refine gw_entry (own := RX5) [some (.ref (ad 0)), some (.int p1), some (.int p2), none] pl_X5 rfl rfl (Nat.le_of_ble_eq_true rfl) rfl (fun X => ?_)
  unfold wp_X5_have at hw
  refine gw_aload_n dX5_have_0 rfl rfl ?_
  refine gw_iload_n dX5_have_1 rfl rfl ?_
  refine gw_iload_n dX5_have_2 rfl rfl ?_
  refine gw_callVi (As := [.int p1, .int p2]) (rest := []) rfl (gc_X5_songAndHours  hw) mX5_songAndHours lmX5_178 oX5 clX5 rfl rfl ⟨Nat.le_of_ble_eq_true rfl, Nat.le_of_ble_eq_true rfl⟩ (Nat.le_of_ble_eq_true rfl) dX5_have_3 (fun r_2 h_1 hw => ?_)
  refine gw_istore_n (ls' := [some (.ref (ad 0)), some (.int p1), some (.int p2), some (.int r_2)]) dX5_have_6 rfl (Nat.le_of_ble_eq_true rfl) rfl ?_
  refine gw_iload_n dX5_have_7 rfl rfl ?_
  refine gw_if_eq (tgt := 17) dX5_have_8 (by decide) (fun c_3 => ?_) (fun c_3 => ?_)
  · have hw := hw.1 c_3
    refine gw_aload_n dX5_have_17 rfl rfl ?_
    refine gw_iload_n dX5_have_18 rfl rfl ?_
    refine gw_callVv (As := [.int p2]) (rest := []) rfl (gc_X5_imagine  hw) mX5_imagine lmX5_175 oX5 clX5 rfl rfl ⟨Nat.le_of_ble_eq_true rfl, Nat.le_of_ble_eq_true rfl⟩ (Nat.le_of_ble_eq_true rfl) dX5_have_19 (fun h_4 hw => ?_)
    refine gw_aload_n dX5_have_22 rfl rfl ?_
    refine gw_getf (k := 1) (v := .ref (ad 24)) oX5 clX5 inUX5 (Nat.le_of_ble_eq_true rfl) rfl lfX5_16 rfl dX5_have_23 ?_
    refine gw_getfN (k := 2) (v := .ref (ad 33)) (oX2 hb24) clX2 inUX2 (Nat.le_of_ble_eq_true rfl) rfl lfX5_96 rfl dX5_have_26 ?_
    refine gw_iload_n dX5_have_29 rfl rfl ?_
    refine gw_callVi (As := [.int p1]) (rest := []) rfl (gc_X1_holders hb24 hw) mX1_holders lmX5_100 (oX1 hb24) clX1 rfl rfl ⟨Nat.le_of_ble_eq_true rfl, Nat.le_of_ble_eq_true rfl⟩ (Nat.le_of_ble_eq_true rfl) dX5_have_30 (fun r_6 h_5 hw => ?_)
    exact gw_ireturn (ty := .int) hw rfl rfl dX5_have_33
  · have hw := hw.2 c_3
    refine gw_aload_n dX5_have_11 rfl rfl ?_
    refine gw_iload_n dX5_have_12 rfl rfl ?_
    refine gw_callVi (As := [.int r_2]) (rest := []) rfl (gc_X5_refuse  hw) mX5_refuse lmX5_48 oX5 clX5 rfl rfl ⟨Nat.le_of_ble_eq_true rfl, Nat.le_of_ble_eq_true rfl⟩ (Nat.le_of_ble_eq_true rfl) dX5_have_13 (fun r_8 h_7 hw => ?_)
    exact gw_ireturn (ty := .int) hw rfl rfl dX5_have_16
def wp_X5_head (h : gw_H) (p1 : Int32) (p2 : Int32) (Q : Int32 → gw_H → Prop) : Prop :=
  (wp_X1_has h 1 p1 (fun r_2 h_1 => ((¬ r_2 = 0 → ((p2 = (0 : Int32) → (wp_X5_at h_1 (11) 6 p1 (fun r_6 h_5 => Q r_6 h_5))) ∧ (¬ p2 = (0 : Int32) → ((p2 = (1 : Int32) → (wp_X5_at h_1 (12) 6 p1 (fun r_9 h_8 => Q r_9 h_8))) ∧ (¬ p2 = (1 : Int32) → ((p2 = (2 : Int32) → (wp_X5_at h_1 (13) 6 p1 (fun r_12 h_11 => Q r_12 h_11))) ∧ (¬ p2 = (2 : Int32) → ((p2 = (3 : Int32) → (wp_X5_at h_1 (14) 6 p1 (fun r_15 h_14 => Q r_15 h_14))) ∧ (¬ p2 = (3 : Int32) → ((p2 = (4 : Int32) → (wp_X5_at h_1 (15) 6 p1 (fun r_18 h_17 => Q r_18 h_17))) ∧ (¬ p2 = (4 : Int32) → ((p2 = (5 : Int32) → (wp_X5_at h_1 (16) 6 p1 (fun r_21 h_20 => Q r_21 h_20))) ∧ (¬ p2 = (5 : Int32) → ((p2 = (6 : Int32) → (wp_X1_bar h_1 1 p1 (fun r_24 h_23 => Q r_24 h_23))) ∧ (¬ p2 = (6 : Int32) → ((p2 = (7 : Int32) → (wp_X1_hums h_1 1 p1 (h_1 1 4) (h_1 1 3) (fun r_27 h_26 => ((r_27 = 0 → Q (0 : Int32) h_26) ∧ (¬ r_27 = 0 → Q (1 : Int32) h_26))))) ∧ (¬ p2 = (7 : Int32) → (wp_X5_refuse h_1 (-2 : Int32) (fun r_30 h_29 => Q r_30 h_29))))))))))))))))))) ∧ (r_2 = 0 → (wp_X5_refuse h_1 (-1 : Int32) (fun r_32 h_31 => Q r_32 h_31))))))
set_option maxRecDepth 100000 in
set_option maxHeartbeats 4000000 in
theorem gc_X5_head {l : Launch} {ad : Nat → Nat} {h : gw_H} {p1 : Int32} {p2 : Int32} {Q : Int32 → gw_H → Prop}  (hw : wp_X5_head h p1 p2 Q) : gw_C l yX5_head cX5_head 3 (some .int) 3 65 vC ad [.ref (ad 0), .int p1, .int p2] h Q := by
  refine gw_entry (own := RX5) [some (.ref (ad 0)), some (.int p1), some (.int p2)] pl_X5 rfl rfl (Nat.le_of_ble_eq_true rfl) rfl (fun X => ?_)
  unfold wp_X5_head at hw
  refine gw_aload_n dX5_head_0 rfl rfl ?_
  refine gw_getf (k := 0) (v := .ref (ad 1)) oX5 clX5 inUX5 (Nat.le_of_ble_eq_true rfl) rfl lfX5_10 rfl dX5_head_1 ?_
  refine gw_getfN (k := 2) (v := .ref (ad 10)) (oX2 hb1) clX2 inUX2 (Nat.le_of_ble_eq_true rfl) rfl lfX5_96 rfl dX5_head_4 ?_
  refine gw_iload_n dX5_head_7 rfl rfl ?_
  refine gw_callVi (As := [.int p1]) (rest := []) rfl (gc_X1_has hb1 hw) mX1_has lmX5_105 (oX1 hb1) clX1 rfl rfl ⟨Nat.le_of_ble_eq_true rfl, Nat.le_of_ble_eq_true rfl⟩ (Nat.le_of_ble_eq_true rfl) dX5_head_8 (fun r_2 h_1 hw => ?_)
  refine gw_if_ne (tgt := 20) dX5_head_11 (by decide) (fun c_3 => ?_) (fun c_3 => ?_)
  · have hw := hw.1 c_3
    refine gw_iload_n dX5_head_20 rfl rfl ?_
    by_cases c_4 : p2 = (0 : Int32)
    · have hw := hw.1 c_4
      refine gw_tin (k := (0 : Int32)) (off := 47) (tgt := 68) dX5_head_21 c_4 (by decide) (by decide) (by decide) (by decide) ?_
      refine gw_aload_n dX5_head_68 rfl rfl ?_
      refine gw_getf (k := 0) (v := .ref (ad 1)) oX5 clX5 inUX5 (Nat.le_of_ble_eq_true rfl) rfl lfX5_10 rfl dX5_head_69 ?_
      refine gw_getfN (k := 2) (v := .ref (ad 10)) (oX2 hb1) clX2 inUX2 (Nat.le_of_ble_eq_true rfl) rfl lfX5_96 rfl dX5_head_72 ?_
      refine gw_getfN (k := 0) (v := .ref (ad 11)) (oX1 hb1) clX1 inUX1 (Nat.le_of_ble_eq_true rfl) rfl lfX5_106 rfl dX5_head_75 ?_
      refine gw_iload_n dX5_head_78 rfl rfl ?_
      refine gw_callSi (As := [.ref (ad 11), .int p1]) (rest := []) rfl (gc_X5_at (ar_10 hb1) hw) mX5_at lmX5_83 rfl rfl ⟨Nat.le_of_ble_eq_true rfl, Nat.le_of_ble_eq_true rfl⟩ (Nat.le_of_ble_eq_true rfl) dX5_head_79 (fun r_6 h_5 hw => ?_)
      exact gw_ireturn (ty := .int) hw rfl rfl dX5_head_82
    · have hw := hw.2 c_4
      by_cases c_7 : p2 = (1 : Int32)
      · have hw := hw.1 c_7
        refine gw_tin (k := (1 : Int32)) (off := 62) (tgt := 83) dX5_head_21 c_7 (by decide) (by decide) (by decide) (by decide) ?_
        refine gw_aload_n dX5_head_83 rfl rfl ?_
        refine gw_getf (k := 0) (v := .ref (ad 1)) oX5 clX5 inUX5 (Nat.le_of_ble_eq_true rfl) rfl lfX5_10 rfl dX5_head_84 ?_
        refine gw_getfN (k := 2) (v := .ref (ad 10)) (oX2 hb1) clX2 inUX2 (Nat.le_of_ble_eq_true rfl) rfl lfX5_96 rfl dX5_head_87 ?_
        refine gw_getfN (k := 1) (v := .ref (ad 12)) (oX1 hb1) clX1 inUX1 (Nat.le_of_ble_eq_true rfl) rfl lfX5_107 rfl dX5_head_90 ?_
        refine gw_iload_n dX5_head_93 rfl rfl ?_
        refine gw_callSi (As := [.ref (ad 12), .int p1]) (rest := []) rfl (gc_X5_at (ar_11 hb1) hw) mX5_at lmX5_83 rfl rfl ⟨Nat.le_of_ble_eq_true rfl, Nat.le_of_ble_eq_true rfl⟩ (Nat.le_of_ble_eq_true rfl) dX5_head_94 (fun r_9 h_8 hw => ?_)
        exact gw_ireturn (ty := .int) hw rfl rfl dX5_head_97
      · have hw := hw.2 c_7
        by_cases c_10 : p2 = (2 : Int32)
        · have hw := hw.1 c_10
          refine gw_tin (k := (2 : Int32)) (off := 77) (tgt := 98) dX5_head_21 c_10 (by decide) (by decide) (by decide) (by decide) ?_
          refine gw_aload_n dX5_head_98 rfl rfl ?_
          refine gw_getf (k := 0) (v := .ref (ad 1)) oX5 clX5 inUX5 (Nat.le_of_ble_eq_true rfl) rfl lfX5_10 rfl dX5_head_99 ?_
          refine gw_getfN (k := 2) (v := .ref (ad 10)) (oX2 hb1) clX2 inUX2 (Nat.le_of_ble_eq_true rfl) rfl lfX5_96 rfl dX5_head_102 ?_
          refine gw_getfN (k := 2) (v := .ref (ad 13)) (oX1 hb1) clX1 inUX1 (Nat.le_of_ble_eq_true rfl) rfl lfX5_110 rfl dX5_head_105 ?_
          refine gw_iload_n dX5_head_108 rfl rfl ?_
          refine gw_callSi (As := [.ref (ad 13), .int p1]) (rest := []) rfl (gc_X5_at (ar_12 hb1) hw) mX5_at lmX5_83 rfl rfl ⟨Nat.le_of_ble_eq_true rfl, Nat.le_of_ble_eq_true rfl⟩ (Nat.le_of_ble_eq_true rfl) dX5_head_109 (fun r_12 h_11 hw => ?_)
          exact gw_ireturn (ty := .int) hw rfl rfl dX5_head_112
        · have hw := hw.2 c_10
          by_cases c_13 : p2 = (3 : Int32)
          · have hw := hw.1 c_13
            refine gw_tin (k := (3 : Int32)) (off := 92) (tgt := 113) dX5_head_21 c_13 (by decide) (by decide) (by decide) (by decide) ?_
            refine gw_aload_n dX5_head_113 rfl rfl ?_
            refine gw_getf (k := 0) (v := .ref (ad 1)) oX5 clX5 inUX5 (Nat.le_of_ble_eq_true rfl) rfl lfX5_10 rfl dX5_head_114 ?_
            refine gw_getfN (k := 2) (v := .ref (ad 10)) (oX2 hb1) clX2 inUX2 (Nat.le_of_ble_eq_true rfl) rfl lfX5_96 rfl dX5_head_117 ?_
            refine gw_getfN (k := 3) (v := .ref (ad 14)) (oX1 hb1) clX1 inUX1 (Nat.le_of_ble_eq_true rfl) rfl lfX5_113 rfl dX5_head_120 ?_
            refine gw_iload_n dX5_head_123 rfl rfl ?_
            refine gw_callSi (As := [.ref (ad 14), .int p1]) (rest := []) rfl (gc_X5_at (ar_13 hb1) hw) mX5_at lmX5_83 rfl rfl ⟨Nat.le_of_ble_eq_true rfl, Nat.le_of_ble_eq_true rfl⟩ (Nat.le_of_ble_eq_true rfl) dX5_head_124 (fun r_15 h_14 hw => ?_)
            exact gw_ireturn (ty := .int) hw rfl rfl dX5_head_127
          · have hw := hw.2 c_13
            by_cases c_16 : p2 = (4 : Int32)
            · have hw := hw.1 c_16
              refine gw_tin (k := (4 : Int32)) (off := 107) (tgt := 128) dX5_head_21 c_16 (by decide) (by decide) (by decide) (by decide) ?_
              refine gw_aload_n dX5_head_128 rfl rfl ?_
              refine gw_getf (k := 0) (v := .ref (ad 1)) oX5 clX5 inUX5 (Nat.le_of_ble_eq_true rfl) rfl lfX5_10 rfl dX5_head_129 ?_
              refine gw_getfN (k := 2) (v := .ref (ad 10)) (oX2 hb1) clX2 inUX2 (Nat.le_of_ble_eq_true rfl) rfl lfX5_96 rfl dX5_head_132 ?_
              refine gw_getfN (k := 4) (v := .ref (ad 15)) (oX1 hb1) clX1 inUX1 (Nat.le_of_ble_eq_true rfl) rfl lfX5_116 rfl dX5_head_135 ?_
              refine gw_iload_n dX5_head_138 rfl rfl ?_
              refine gw_callSi (As := [.ref (ad 15), .int p1]) (rest := []) rfl (gc_X5_at (ar_14 hb1) hw) mX5_at lmX5_83 rfl rfl ⟨Nat.le_of_ble_eq_true rfl, Nat.le_of_ble_eq_true rfl⟩ (Nat.le_of_ble_eq_true rfl) dX5_head_139 (fun r_18 h_17 hw => ?_)
              exact gw_ireturn (ty := .int) hw rfl rfl dX5_head_142
            · have hw := hw.2 c_16
              by_cases c_19 : p2 = (5 : Int32)
              · have hw := hw.1 c_19
                refine gw_tin (k := (5 : Int32)) (off := 122) (tgt := 143) dX5_head_21 c_19 (by decide) (by decide) (by decide) (by decide) ?_
                refine gw_aload_n dX5_head_143 rfl rfl ?_
                refine gw_getf (k := 0) (v := .ref (ad 1)) oX5 clX5 inUX5 (Nat.le_of_ble_eq_true rfl) rfl lfX5_10 rfl dX5_head_144 ?_
                refine gw_getfN (k := 2) (v := .ref (ad 10)) (oX2 hb1) clX2 inUX2 (Nat.le_of_ble_eq_true rfl) rfl lfX5_96 rfl dX5_head_147 ?_
                refine gw_getfN (k := 5) (v := .ref (ad 16)) (oX1 hb1) clX1 inUX1 (Nat.le_of_ble_eq_true rfl) rfl lfX5_119 rfl dX5_head_150 ?_
                refine gw_iload_n dX5_head_153 rfl rfl ?_
                refine gw_callSi (As := [.ref (ad 16), .int p1]) (rest := []) rfl (gc_X5_at (ar_15 hb1) hw) mX5_at lmX5_83 rfl rfl ⟨Nat.le_of_ble_eq_true rfl, Nat.le_of_ble_eq_true rfl⟩ (Nat.le_of_ble_eq_true rfl) dX5_head_154 (fun r_21 h_20 hw => ?_)
                exact gw_ireturn (ty := .int) hw rfl rfl dX5_head_157
              · have hw := hw.2 c_19
                by_cases c_22 : p2 = (6 : Int32)
                · have hw := hw.1 c_22
                  refine gw_tin (k := (6 : Int32)) (off := 137) (tgt := 158) dX5_head_21 c_22 (by decide) (by decide) (by decide) (by decide) ?_
                  refine gw_aload_n dX5_head_158 rfl rfl ?_
                  refine gw_getf (k := 0) (v := .ref (ad 1)) oX5 clX5 inUX5 (Nat.le_of_ble_eq_true rfl) rfl lfX5_10 rfl dX5_head_159 ?_
                  refine gw_getfN (k := 2) (v := .ref (ad 10)) (oX2 hb1) clX2 inUX2 (Nat.le_of_ble_eq_true rfl) rfl lfX5_96 rfl dX5_head_162 ?_
                  refine gw_iload_n dX5_head_165 rfl rfl ?_
                  refine gw_callVi (As := [.int p1]) (rest := []) rfl (gc_X1_bar hb1 hw) mX1_bar lmX5_122 (oX1 hb1) clX1 rfl rfl ⟨Nat.le_of_ble_eq_true rfl, Nat.le_of_ble_eq_true rfl⟩ (Nat.le_of_ble_eq_true rfl) dX5_head_166 (fun r_24 h_23 hw => ?_)
                  exact gw_ireturn (ty := .int) hw rfl rfl dX5_head_169
                · have hw := hw.2 c_22
                  by_cases c_25 : p2 = (7 : Int32)
                  · have hw := hw.1 c_25
                    refine gw_tin (k := (7 : Int32)) (off := 149) (tgt := 170) dX5_head_21 c_25 (by decide) (by decide) (by decide) (by decide) ?_
                    refine gw_aload_n dX5_head_170 rfl rfl ?_
                    refine gw_getf (k := 0) (v := .ref (ad 1)) oX5 clX5 inUX5 (Nat.le_of_ble_eq_true rfl) rfl lfX5_10 rfl dX5_head_171 ?_
                    refine gw_getfN (k := 2) (v := .ref (ad 10)) (oX2 hb1) clX2 inUX2 (Nat.le_of_ble_eq_true rfl) rfl lfX5_96 rfl dX5_head_174 ?_
                    refine gw_iload_n dX5_head_177 rfl rfl ?_
                    refine gw_aload_n dX5_head_178 rfl rfl ?_
                    refine gw_getf (k := 0) (v := .ref (ad 1)) oX5 clX5 inUX5 (Nat.le_of_ble_eq_true rfl) rfl lfX5_10 rfl dX5_head_179 ?_
                    refine gw_getfN (k := 4) (v := .int (h_1 1 4)) (oX2 hb1) clX2 inUX2 (Nat.le_of_ble_eq_true rfl) rfl lfX5_125 rfl dX5_head_182 ?_
                    refine gw_aload_n dX5_head_185 rfl rfl ?_
                    refine gw_getf (k := 0) (v := .ref (ad 1)) oX5 clX5 inUX5 (Nat.le_of_ble_eq_true rfl) rfl lfX5_10 rfl dX5_head_186 ?_
                    refine gw_getfN (k := 3) (v := .int (h_1 1 3)) (oX2 hb1) clX2 inUX2 (Nat.le_of_ble_eq_true rfl) rfl lfX5_128 rfl dX5_head_189 ?_
                    refine gw_callVi (As := [.int p1, .int (h_1 1 4), .int (h_1 1 3)]) (rest := []) rfl (gc_X1_hums hb1 hw) mX1_hums lmX5_131 (oX1 hb1) clX1 rfl rfl ⟨Nat.le_of_ble_eq_true rfl, Nat.le_of_ble_eq_true rfl⟩ (Nat.le_of_ble_eq_true rfl) dX5_head_192 (fun r_27 h_26 hw => ?_)
                    refine gw_if_eq (tgt := 202) dX5_head_195 (by decide) (fun c_28 => ?_) (fun c_28 => ?_)
                    · have hw := hw.1 c_28
                      refine gw_iconst dX5_head_202 ic_0 ?_
                      exact gw_ireturn (ty := .int) hw rfl rfl dX5_head_203
                    · have hw := hw.2 c_28
                      refine gw_iconst dX5_head_198 ic_1 ?_
                      refine gw_goto (tgt := 203) dX5_head_199 (by decide) ?_
                      exact gw_ireturn (ty := .int) hw rfl rfl dX5_head_203
                  · have hw := hw.2 c_25
                    refine gw_tout (tgt := 204) dX5_head_21 (by have q0 := lv_neT c_4 (a := 0) (by decide); have q1 := lv_neT c_7 (a := 1) (by decide); have q2 := lv_neT c_10 (a := 2) (by decide); have q3 := lv_neT c_13 (a := 3) (by decide); have q4 := lv_neT c_16 (a := 4) (by decide); have q5 := lv_neT c_19 (a := 5) (by decide); have q6 := lv_neT c_22 (a := 6) (by decide); have q7 := lv_neT c_25 (a := 7) (by decide); omega) (by decide) ?_
                    refine gw_aload_n dX5_head_204 rfl rfl ?_
                    refine gw_bipush dX5_head_205 bp_m2 ?_
                    refine gw_callVi (As := [.int (-2 : Int32)]) (rest := []) rfl (gc_X5_refuse  hw) mX5_refuse lmX5_48 oX5 clX5 rfl rfl ⟨Nat.le_of_ble_eq_true rfl, Nat.le_of_ble_eq_true rfl⟩ (Nat.le_of_ble_eq_true rfl) dX5_head_207 (fun r_30 h_29 hw => ?_)
                    exact gw_ireturn (ty := .int) hw rfl rfl dX5_head_210
  · have hw := hw.2 c_3
    refine gw_aload_n dX5_head_14 rfl rfl ?_
    refine gw_iconst dX5_head_15 ic_m1 ?_
    refine gw_callVi (As := [.int (-1 : Int32)]) (rest := []) rfl (gc_X5_refuse  hw) mX5_refuse lmX5_48 oX5 clX5 rfl rfl ⟨Nat.le_of_ble_eq_true rfl, Nat.le_of_ble_eq_true rfl⟩ (Nat.le_of_ble_eq_true rfl) dX5_head_16 (fun r_32 h_31 hw => ?_)
    exact gw_ireturn (ty := .int) hw rfl rfl dX5_head_19
def wp_X5_isNeither (h : gw_H) (p1 : Int32) (Q : Int32 → gw_H → Prop) : Prop :=
  ((p1 = 0 → Q (0 : Int32) h) ∧ (¬ p1 = 0 → ((p1 = (1 : Int32) → Q (0 : Int32) h) ∧ (¬ p1 = (1 : Int32) → Q (1 : Int32) h))))
set_option maxRecDepth 100000 in
set_option maxHeartbeats 4000000 in
theorem gc_X5_isNeither {l : Launch} {ad : Nat → Nat} {h : gw_H} {p1 : Int32} {Q : Int32 → gw_H → Prop}  (hw : wp_X5_isNeither h p1 Q) : gw_C l yX5_isNeither cX5_isNeither 1 (some .boolean) 0 0 vC ad [.int p1] h Q := by
  refine gw_entry (own := RX5) [some (.int p1)] pl_X5 rfl rfl (Nat.le_of_ble_eq_true rfl) rfl (fun X => ?_)
  unfold wp_X5_isNeither at hw
  refine gw_iload_n dX5_isNeither_0 rfl rfl ?_
  refine gw_if_eq (tgt := 13) dX5_isNeither_1 (by decide) (fun c_1 => ?_) (fun c_1 => ?_)
  · have hw := hw.1 c_1
    refine gw_iconst dX5_isNeither_13 ic_0 ?_
    exact gw_ireturn (ty := .boolean) hw rfl rfl dX5_isNeither_14
  · have hw := hw.2 c_1
    refine gw_iload_n dX5_isNeither_4 rfl rfl ?_
    refine gw_iconst dX5_isNeither_5 ic_1 ?_
    refine gw_icmp_eq (tgt := 13) dX5_isNeither_6 (by decide) (fun c_2 => ?_) (fun c_2 => ?_)
    · have hw := hw.1 c_2
      refine gw_iconst dX5_isNeither_13 ic_0 ?_
      exact gw_ireturn (ty := .boolean) hw rfl rfl dX5_isNeither_14
    · have hw := hw.2 c_2
      refine gw_iconst dX5_isNeither_9 ic_1 ?_
      refine gw_goto (tgt := 14) dX5_isNeither_10 (by decide) ?_
      exact gw_ireturn (ty := .boolean) hw rfl rfl dX5_isNeither_14
def wk_X5_hold_24 (p1 : Int32) (p2 : Int32) (p3 : Int32)  (Q : Int32 → gw_H → Prop) : Int32 → gw_H → Prop :=
  fun x4 h => ((x4 = 0 → (wp_X5_imagine h p2 (fun _ h_5 => ((¬ p3 = 0 → (wp_X5_at h_5 (38) 6 p1 (fun r_8 h_7 => Q r_8 h_7))) ∧ (p3 = 0 → (wp_X5_at h_5 (37) 6 p1 (fun r_10 h_9 => Q r_10 h_9))))))) ∧ (¬ x4 = 0 → (wp_X5_refuse h x4 (fun r_12 h_11 => Q r_12 h_11))))
set_option maxRecDepth 100000 in
set_option maxHeartbeats 4000000 in
theorem tk_X5_hold_24 {l : Launch} {ad : Nat → Nat} {X : gw_X} {p1 : Int32} {p2 : Int32} {p3 : Int32}  {Q : Int32 → gw_H → Prop}   (x4 : Int32) (h : gw_H) (hw : wk_X5_hold_24 p1 p2 p3  Q x4 h) : gw_G l vC ad cX5_hold RX5 5 (some .int) 6 145 Q X h 24 [some (.ref (ad 0)), some (.int p1), some (.int p2), some (.int p3), some (.int x4)] [] := by
  unfold wk_X5_hold_24 at hw
  refine gw_iload dX5_hold_24 rfl ?_
  refine gw_if_eq (tgt := 36) dX5_hold_26 (by decide) (fun c_4 => ?_) (fun c_4 => ?_)
  · have hw := hw.1 c_4
    refine gw_aload_n dX5_hold_36 rfl rfl ?_
    refine gw_iload_n dX5_hold_37 rfl rfl ?_
    refine gw_callVv (As := [.int p2]) (rest := []) rfl (gc_X5_imagine  hw) mX5_imagine lmX5_175 oX5 clX5 rfl rfl ⟨Nat.le_of_ble_eq_true rfl, Nat.le_of_ble_eq_true rfl⟩ (Nat.le_of_ble_eq_true rfl) dX5_hold_38 (fun h_5 hw => ?_)
    refine gw_iload_n dX5_hold_41 rfl rfl ?_
    refine gw_if_ne (tgt := 62) dX5_hold_42 (by decide) (fun c_6 => ?_) (fun c_6 => ?_)
    · have hw := hw.1 c_6
      refine gw_aload_n dX5_hold_62 rfl rfl ?_
      refine gw_getf (k := 1) (v := .ref (ad 24)) oX5 clX5 inUX5 (Nat.le_of_ble_eq_true rfl) rfl lfX5_16 rfl dX5_hold_63 ?_
      refine gw_getfN (k := 2) (v := .ref (ad 33)) (oX2 hb24) clX2 inUX2 (Nat.le_of_ble_eq_true rfl) rfl lfX5_96 rfl dX5_hold_66 ?_
      refine gw_getfN (k := 4) (v := .ref (ad 38)) (oX1 hb24) clX1 inUX1 (Nat.le_of_ble_eq_true rfl) rfl lfX5_116 rfl dX5_hold_69 ?_
      refine gw_iload_n dX5_hold_72 rfl rfl ?_
      refine gw_callSi (As := [.ref (ad 38), .int p1]) (rest := []) rfl (gc_X5_at (ar_14 hb24) hw) mX5_at lmX5_83 rfl rfl ⟨Nat.le_of_ble_eq_true rfl, Nat.le_of_ble_eq_true rfl⟩ (Nat.le_of_ble_eq_true rfl) dX5_hold_73 (fun r_8 h_7 hw => ?_)
      exact gw_ireturn (ty := .int) hw rfl rfl dX5_hold_76
    · have hw := hw.2 c_6
      refine gw_aload_n dX5_hold_45 rfl rfl ?_
      refine gw_getf (k := 1) (v := .ref (ad 24)) oX5 clX5 inUX5 (Nat.le_of_ble_eq_true rfl) rfl lfX5_16 rfl dX5_hold_46 ?_
      refine gw_getfN (k := 2) (v := .ref (ad 33)) (oX2 hb24) clX2 inUX2 (Nat.le_of_ble_eq_true rfl) rfl lfX5_96 rfl dX5_hold_49 ?_
      refine gw_getfN (k := 3) (v := .ref (ad 37)) (oX1 hb24) clX1 inUX1 (Nat.le_of_ble_eq_true rfl) rfl lfX5_113 rfl dX5_hold_52 ?_
      refine gw_iload_n dX5_hold_55 rfl rfl ?_
      refine gw_callSi (As := [.ref (ad 37), .int p1]) (rest := []) rfl (gc_X5_at (ar_13 hb24) hw) mX5_at lmX5_83 rfl rfl ⟨Nat.le_of_ble_eq_true rfl, Nat.le_of_ble_eq_true rfl⟩ (Nat.le_of_ble_eq_true rfl) dX5_hold_56 (fun r_10 h_9 hw => ?_)
      refine gw_goto (tgt := 76) dX5_hold_59 (by decide) ?_
      exact gw_ireturn (ty := .int) hw rfl rfl dX5_hold_76
  · have hw := hw.2 c_4
    refine gw_aload_n dX5_hold_29 rfl rfl ?_
    refine gw_iload dX5_hold_30 rfl ?_
    refine gw_callVi (As := [.int x4]) (rest := []) rfl (gc_X5_refuse  hw) mX5_refuse lmX5_48 oX5 clX5 rfl rfl ⟨Nat.le_of_ble_eq_true rfl, Nat.le_of_ble_eq_true rfl⟩ (Nat.le_of_ble_eq_true rfl) dX5_hold_32 (fun r_12 h_11 hw => ?_)
    exact gw_ireturn (ty := .int) hw rfl rfl dX5_hold_35
def wp_X5_hold (h : gw_H) (p1 : Int32) (p2 : Int32) (p3 : Int32) (Q : Int32 → gw_H → Prop) : Prop :=
  (wp_X5_headAndHours h p1 p2 (fun r_2 h_1 => ((¬ r_2 = 0 → (wk_X5_hold_24 p1 p2 p3  Q r_2 h_1)) ∧ (r_2 = 0 → (wp_X5_isNeither h_1 p3 (fun r_14 h_13 => ((r_14 = 0 → (wk_X5_hold_24 p1 p2 p3  Q r_2 h_13)) ∧ (¬ r_14 = 0 → (wk_X5_hold_24 p1 p2 p3  Q (-2 : Int32) h_13)))))))))
set_option maxRecDepth 100000 in
set_option maxHeartbeats 4000000 in
theorem gc_X5_hold {l : Launch} {ad : Nat → Nat} {h : gw_H} {p1 : Int32} {p2 : Int32} {p3 : Int32} {Q : Int32 → gw_H → Prop}  (hw : wp_X5_hold h p1 p2 p3 Q) : gw_C l yX5_hold cX5_hold 5 (some .int) 6 145 vC ad [.ref (ad 0), .int p1, .int p2, .int p3] h Q := by
  refine gw_entry (own := RX5) [some (.ref (ad 0)), some (.int p1), some (.int p2), some (.int p3), none] pl_X5 rfl rfl (Nat.le_of_ble_eq_true rfl) rfl (fun X => ?_)
  unfold wp_X5_hold at hw
  refine gw_aload_n dX5_hold_0 rfl rfl ?_
  refine gw_iload_n dX5_hold_1 rfl rfl ?_
  refine gw_iload_n dX5_hold_2 rfl rfl ?_
  refine gw_callVi (As := [.int p1, .int p2]) (rest := []) rfl (gc_X5_headAndHours  hw) mX5_headAndHours lmX5_168 oX5 clX5 rfl rfl ⟨Nat.le_of_ble_eq_true rfl, Nat.le_of_ble_eq_true rfl⟩ (Nat.le_of_ble_eq_true rfl) dX5_hold_3 (fun r_2 h_1 hw => ?_)
  refine gw_istore (ls' := [some (.ref (ad 0)), some (.int p1), some (.int p2), some (.int p3), some (.int r_2)]) dX5_hold_6 (Nat.le_of_ble_eq_true rfl) rfl ?_
  refine gw_iload dX5_hold_8 rfl ?_
  refine gw_if_ne (tgt := 24) dX5_hold_10 (by decide) (fun c_3 => ?_) (fun c_3 => ?_)
  · have hw := hw.1 c_3
    exact tk_X5_hold_24   r_2 h_1 hw
  · have hw := hw.2 c_3
    refine gw_iload_n dX5_hold_13 rfl rfl ?_
    refine gw_callSi (As := [.int p3]) (rest := []) rfl (gc_X5_isNeither  hw) mX5_isNeither lmX5_172 rfl rfl ⟨Nat.le_of_ble_eq_true rfl, Nat.le_of_ble_eq_true rfl⟩ (Nat.le_of_ble_eq_true rfl) dX5_hold_14 (fun r_14 h_13 hw => ?_)
    refine gw_if_eq (tgt := 24) dX5_hold_17 (by decide) (fun c_15 => ?_) (fun c_15 => ?_)
    · have hw := hw.1 c_15
      exact tk_X5_hold_24   r_2 h_13 hw
    · have hw := hw.2 c_15
      refine gw_bipush dX5_hold_20 bp_m2 ?_
      refine gw_istore (ls' := [some (.ref (ad 0)), some (.int p1), some (.int p2), some (.int p3), some (.int (-2 : Int32))]) dX5_hold_22 (Nat.le_of_ble_eq_true rfl) rfl ?_
      exact tk_X5_hold_24   (-2 : Int32) h_13 hw
def wp_X5_holdersIfWritten (h : gw_H) (p1 : Int32) (p2 : Int32) (p3 : Int32) (p4 : Int32) (Q : Int32 → gw_H → Prop) : Prop :=
  (wp_X2_takeAs h 24 1 (fun _ h_1 => (wp_X3_add h_1 24 p1 p2 p3 (fun r_3 h_2 => (wp_X2_give h_2 24 (0 : Int32) (h_1 29 3) (fun _ h_4 => (wp_X2_passHours h_4 24 p4 (fun _ h_5 => (wp_X1_holders h_5 24 (h_1 29 3) (fun r_7 h_6 => Q r_7 h_6))))))))))
set_option maxRecDepth 100000 in
set_option maxHeartbeats 4000000 in
theorem gc_X5_holdersIfWritten {l : Launch} {ad : Nat → Nat} {h : gw_H} {p1 : Int32} {p2 : Int32} {p3 : Int32} {p4 : Int32} {Q : Int32 → gw_H → Prop}  (hw : wp_X5_holdersIfWritten h p1 p2 p3 p4 Q) : gw_C l yX5_holdersIfWritten cX5_holdersIfWritten 6 (some .int) 5 124 vC ad [.ref (ad 0), .int p1, .int p2, .int p3, .int p4] h Q := by
  refine gw_entry (own := RX5) [some (.ref (ad 0)), some (.int p1), some (.int p2), some (.int p3), some (.int p4), none] pl_X5 rfl rfl (Nat.le_of_ble_eq_true rfl) rfl (fun X => ?_)
  unfold wp_X5_holdersIfWritten at hw
  refine gw_aload_n dX5_holdersIfWritten_0 rfl rfl ?_
  refine gw_getf (k := 1) (v := .ref (ad 24)) oX5 clX5 inUX5 (Nat.le_of_ble_eq_true rfl) rfl lfX5_16 rfl dX5_holdersIfWritten_1 ?_
  refine gw_aload_n dX5_holdersIfWritten_4 rfl rfl ?_
  refine gw_getf (k := 0) (v := .ref (ad 1)) oX5 clX5 inUX5 (Nat.le_of_ble_eq_true rfl) rfl lfX5_10 rfl dX5_holdersIfWritten_5 ?_
  refine gw_callVv (As := [.ref (ad 1)]) (rest := []) rfl (gc_X2_takeAs hb24 hb1 hw) mX2_takeAs lmX5_181 (oX2 hb24) clX2 rfl rfl ⟨Nat.le_of_ble_eq_true rfl, Nat.le_of_ble_eq_true rfl⟩ (Nat.le_of_ble_eq_true rfl) dX5_holdersIfWritten_8 (fun h_1 hw => ?_)
  refine gw_aload_n dX5_holdersIfWritten_11 rfl rfl ?_
  refine gw_getf (k := 1) (v := .ref (ad 24)) oX5 clX5 inUX5 (Nat.le_of_ble_eq_true rfl) rfl lfX5_16 rfl dX5_holdersIfWritten_12 ?_
  refine gw_getfN (k := 1) (v := .ref (ad 29)) (oX2 hb24) clX2 inUX2 (Nat.le_of_ble_eq_true rfl) rfl lfX5_70 rfl dX5_holdersIfWritten_15 ?_
  refine gw_getfN (k := 3) (v := .int (h_1 29 3)) (oX3 hb24) clX3 inUX3 (Nat.le_of_ble_eq_true rfl) rfl lfX5_185 rfl dX5_holdersIfWritten_18 ?_
  refine gw_istore (ls' := [some (.ref (ad 0)), some (.int p1), some (.int p2), some (.int p3), some (.int p4), some (.int (h_1 29 3))]) dX5_holdersIfWritten_21 (Nat.le_of_ble_eq_true rfl) rfl ?_
  refine gw_aload_n dX5_holdersIfWritten_23 rfl rfl ?_
  refine gw_getf (k := 1) (v := .ref (ad 24)) oX5 clX5 inUX5 (Nat.le_of_ble_eq_true rfl) rfl lfX5_16 rfl dX5_holdersIfWritten_24 ?_
  refine gw_getfN (k := 1) (v := .ref (ad 29)) (oX2 hb24) clX2 inUX2 (Nat.le_of_ble_eq_true rfl) rfl lfX5_70 rfl dX5_holdersIfWritten_27 ?_
  refine gw_iload_n dX5_holdersIfWritten_30 rfl rfl ?_
  refine gw_iload_n dX5_holdersIfWritten_31 rfl rfl ?_
  refine gw_iload_n dX5_holdersIfWritten_32 rfl rfl ?_
  refine gw_callVi (As := [.int p1, .int p2, .int p3]) (rest := []) rfl (gc_X3_add hb24 hw) mX3_add lmX5_244 (oX3 hb24) clX3 rfl rfl ⟨Nat.le_of_ble_eq_true rfl, Nat.le_of_ble_eq_true rfl⟩ (Nat.le_of_ble_eq_true rfl) dX5_holdersIfWritten_33 (fun r_3 h_2 hw => ?_)
  refine gw_pop dX5_holdersIfWritten_36 rfl ?_
  refine gw_aload_n dX5_holdersIfWritten_37 rfl rfl ?_
  refine gw_getf (k := 1) (v := .ref (ad 24)) oX5 clX5 inUX5 (Nat.le_of_ble_eq_true rfl) rfl lfX5_16 rfl dX5_holdersIfWritten_38 ?_
  refine gw_iconst dX5_holdersIfWritten_41 ic_0 ?_
  refine gw_iload dX5_holdersIfWritten_42 rfl ?_
  refine gw_callVv (As := [.int (0 : Int32), .int (h_1 29 3)]) (rest := []) rfl (gc_X2_give hb24 hw) mX2_give lmX5_155 (oX2 hb24) clX2 rfl rfl ⟨Nat.le_of_ble_eq_true rfl, Nat.le_of_ble_eq_true rfl⟩ (Nat.le_of_ble_eq_true rfl) dX5_holdersIfWritten_44 (fun h_4 hw => ?_)
  refine gw_aload_n dX5_holdersIfWritten_47 rfl rfl ?_
  refine gw_getf (k := 1) (v := .ref (ad 24)) oX5 clX5 inUX5 (Nat.le_of_ble_eq_true rfl) rfl lfX5_16 rfl dX5_holdersIfWritten_48 ?_
  refine gw_iload dX5_holdersIfWritten_51 rfl ?_
  refine gw_callVv (As := [.int p4]) (rest := []) rfl (gc_X2_passHours hb24 hw) mX2_passHours lmX5_199 (oX2 hb24) clX2 rfl rfl ⟨Nat.le_of_ble_eq_true rfl, Nat.le_of_ble_eq_true rfl⟩ (Nat.le_of_ble_eq_true rfl) dX5_holdersIfWritten_53 (fun h_5 hw => ?_)
  refine gw_aload_n dX5_holdersIfWritten_56 rfl rfl ?_
  refine gw_getf (k := 1) (v := .ref (ad 24)) oX5 clX5 inUX5 (Nat.le_of_ble_eq_true rfl) rfl lfX5_16 rfl dX5_holdersIfWritten_57 ?_
  refine gw_getfN (k := 2) (v := .ref (ad 33)) (oX2 hb24) clX2 inUX2 (Nat.le_of_ble_eq_true rfl) rfl lfX5_96 rfl dX5_holdersIfWritten_60 ?_
  refine gw_iload dX5_holdersIfWritten_63 rfl ?_
  refine gw_callVi (As := [.int (h_1 29 3)]) (rest := []) rfl (gc_X1_holders hb24 hw) mX1_holders lmX5_100 (oX1 hb24) clX1 rfl rfl ⟨Nat.le_of_ble_eq_true rfl, Nat.le_of_ble_eq_true rfl⟩ (Nat.le_of_ble_eq_true rfl) dX5_holdersIfWritten_65 (fun r_7 h_6 hw => ?_)
  exact gw_ireturn (ty := .int) hw rfl rfl dX5_holdersIfWritten_68
def wp_X5_hour (h : gw_H)  (Q : Int32 → gw_H → Prop) : Prop :=
  (((h 1 3) < (999 : Int32) → (wp_X2_passHour h 1 (fun r_3 h_2 => Q r_3 h_2))) ∧ (¬ (h 1 3) < (999 : Int32) → (wp_X5_refuse h (-6 : Int32) (fun r_5 h_4 => Q r_5 h_4))))
set_option maxRecDepth 100000 in
set_option maxHeartbeats 4000000 in
theorem gc_X5_hour {l : Launch} {ad : Nat → Nat} {h : gw_H}  {Q : Int32 → gw_H → Prop}  (hw : wp_X5_hour h  Q) : gw_C l yX5_hour cX5_hour 1 (some .int) 4 93 vC ad [.ref (ad 0)] h Q := by
  refine gw_entry (own := RX5) [some (.ref (ad 0))] pl_X5 rfl rfl (Nat.le_of_ble_eq_true rfl) rfl (fun X => ?_)
  unfold wp_X5_hour at hw
  refine gw_aload_n dX5_hour_0 rfl rfl ?_
  refine gw_getf (k := 0) (v := .ref (ad 1)) oX5 clX5 inUX5 (Nat.le_of_ble_eq_true rfl) rfl lfX5_10 rfl dX5_hour_1 ?_
  refine gw_getfN (k := 3) (v := .int (h 1 3)) (oX2 hb1) clX2 inUX2 (Nat.le_of_ble_eq_true rfl) rfl lfX5_128 rfl dX5_hour_4 ?_
  refine gw_sipush dX5_hour_7 sp_999 ?_
  refine gw_icmp_lt (tgt := 20) dX5_hour_10 (by decide) (fun c_1 => ?_) (fun c_1 => ?_)
  · have hw := hw.1 c_1
    refine gw_aload_n dX5_hour_20 rfl rfl ?_
    refine gw_getf (k := 0) (v := .ref (ad 1)) oX5 clX5 inUX5 (Nat.le_of_ble_eq_true rfl) rfl lfX5_10 rfl dX5_hour_21 ?_
    refine gw_callVi (As := []) (rest := []) rfl (gc_X2_passHour hb1 hw) mX2_passHour lmX5_165 (oX2 hb1) clX2 rfl rfl ⟨Nat.le_of_ble_eq_true rfl, Nat.le_of_ble_eq_true rfl⟩ (Nat.le_of_ble_eq_true rfl) dX5_hour_24 (fun r_3 h_2 hw => ?_)
    exact gw_ireturn (ty := .int) hw rfl rfl dX5_hour_27
  · have hw := hw.2 c_1
    refine gw_aload_n dX5_hour_13 rfl rfl ?_
    refine gw_bipush dX5_hour_14 bp_m6 ?_
    refine gw_callVi (As := [.int (-6 : Int32)]) (rest := []) rfl (gc_X5_refuse  hw) mX5_refuse lmX5_48 oX5 clX5 rfl rfl ⟨Nat.le_of_ble_eq_true rfl, Nat.le_of_ble_eq_true rfl⟩ (Nat.le_of_ble_eq_true rfl) dX5_hour_16 (fun r_5 h_4 hw => ?_)
    exact gw_ireturn (ty := .int) hw rfl rfl dX5_hour_19
def wl_X5_hoursUntilRid_2 (p1 : Int32)  (Q : Int32 → gw_H → Prop) : Nat → Int32 → gw_H → Prop
  | 0 => fun _ _ => False
  | n + 1 => fun x2 h => (((60 : Int32) < x2 → Q (61 : Int32) h) ∧ (¬ (60 : Int32) < x2 → (wp_X1_hasSong h 24 p1 (fun r_3 h_2 => ((¬ r_3 = 0 → (wp_X2_passHour h_2 24 (fun r_6 h_5 => ((wl_X5_hoursUntilRid_2 p1  Q n) (x2 + (1 : Int32)) h_5)))) ∧ (r_3 = 0 → Q x2 h_2))))))
set_option maxRecDepth 100000 in
set_option maxHeartbeats 4000000 in
theorem tl_X5_hoursUntilRid_2 {l : Launch} {ad : Nat → Nat} {X : gw_X} {p1 : Int32}  {Q : Int32 → gw_H → Prop}   : ∀ (n : Nat) (x2 : Int32) (h : gw_H), wl_X5_hoursUntilRid_2 p1  Q n x2 h → gw_G l vC ad cX5_hoursUntilRid RX5 3 (some .int) 4 93 Q X h 2 [some (.ref (ad 0)), some (.int p1), some (.int x2)] [] := by
  intro n
  induction n with
  | zero => intro x2 h hw; exact hw.elim
  | succ n ih =>
    intro x2 h hw
    unfold wl_X5_hoursUntilRid_2 at hw
    refine gw_iload_n dX5_hoursUntilRid_2 rfl rfl ?_
    refine gw_bipush dX5_hoursUntilRid_3 bp_60 ?_
    refine gw_icmp_gt (tgt := 38) dX5_hoursUntilRid_5 (by decide) (fun c_1 => ?_) (fun c_1 => ?_)
    · have hw := hw.1 c_1
      refine gw_bipush dX5_hoursUntilRid_38 bp_61 ?_
      exact gw_ireturn (ty := .int) hw rfl rfl dX5_hoursUntilRid_40
    · have hw := hw.2 c_1
      refine gw_aload_n dX5_hoursUntilRid_8 rfl rfl ?_
      refine gw_getf (k := 1) (v := .ref (ad 24)) oX5 clX5 inUX5 (Nat.le_of_ble_eq_true rfl) rfl lfX5_16 rfl dX5_hoursUntilRid_9 ?_
      refine gw_getfN (k := 2) (v := .ref (ad 33)) (oX2 hb24) clX2 inUX2 (Nat.le_of_ble_eq_true rfl) rfl lfX5_96 rfl dX5_hoursUntilRid_12 ?_
      refine gw_iload_n dX5_hoursUntilRid_15 rfl rfl ?_
      refine gw_callVi (As := [.int p1]) (rest := []) rfl (gc_X1_hasSong hb24 hw) mX1_hasSong lmX5_159 (oX1 hb24) clX1 rfl rfl ⟨Nat.le_of_ble_eq_true rfl, Nat.le_of_ble_eq_true rfl⟩ (Nat.le_of_ble_eq_true rfl) dX5_hoursUntilRid_16 (fun r_3 h_2 hw => ?_)
      refine gw_if_ne (tgt := 24) dX5_hoursUntilRid_19 (by decide) (fun c_4 => ?_) (fun c_4 => ?_)
      · have hw := hw.1 c_4
        refine gw_aload_n dX5_hoursUntilRid_24 rfl rfl ?_
        refine gw_getf (k := 1) (v := .ref (ad 24)) oX5 clX5 inUX5 (Nat.le_of_ble_eq_true rfl) rfl lfX5_16 rfl dX5_hoursUntilRid_25 ?_
        refine gw_callVi (As := []) (rest := []) rfl (gc_X2_passHour hb24 hw) mX2_passHour lmX5_165 (oX2 hb24) clX2 rfl rfl ⟨Nat.le_of_ble_eq_true rfl, Nat.le_of_ble_eq_true rfl⟩ (Nat.le_of_ble_eq_true rfl) dX5_hoursUntilRid_28 (fun r_6 h_5 hw => ?_)
        refine gw_pop dX5_hoursUntilRid_31 rfl ?_
        refine gw_iinc (ls' := [some (.ref (ad 0)), some (.int p1), some (.int (x2 + (1 : Int32)))]) dX5_hoursUntilRid_32 rfl (congrArg (fun z => x2 + z) ic_1) (Nat.le_of_ble_eq_true rfl) rfl ?_
        refine gw_goto (tgt := 2) dX5_hoursUntilRid_35 (by decide) ?_
        exact ih (x2 + (1 : Int32)) h_5 hw
      · have hw := hw.2 c_4
        refine gw_iload_n dX5_hoursUntilRid_22 rfl rfl ?_
        exact gw_ireturn (ty := .int) hw rfl rfl dX5_hoursUntilRid_23
def wp_X5_hoursUntilRid (h : gw_H) (p1 : Int32) (Q : Int32 → gw_H → Prop) : Prop :=
  (∃ n_7 : Nat, wl_X5_hoursUntilRid_2 p1  Q n_7 (0 : Int32) h)
set_option maxRecDepth 100000 in
set_option maxHeartbeats 4000000 in
theorem gc_X5_hoursUntilRid {l : Launch} {ad : Nat → Nat} {h : gw_H} {p1 : Int32} {Q : Int32 → gw_H → Prop}  (hw : wp_X5_hoursUntilRid h p1 Q) : gw_C l yX5_hoursUntilRid cX5_hoursUntilRid 3 (some .int) 4 93 vC ad [.ref (ad 0), .int p1] h Q := by
  refine gw_entry (own := RX5) [some (.ref (ad 0)), some (.int p1), none] pl_X5 rfl rfl (Nat.le_of_ble_eq_true rfl) rfl (fun X => ?_)
  unfold wp_X5_hoursUntilRid at hw
  refine gw_iconst dX5_hoursUntilRid_0 ic_0 ?_
  refine gw_istore_n (ls' := [some (.ref (ad 0)), some (.int p1), some (.int (0 : Int32))]) dX5_hoursUntilRid_1 rfl (Nat.le_of_ble_eq_true rfl) rfl ?_
  obtain ⟨n_7, hw⟩ := hw
  exact tl_X5_hoursUntilRid_2   n_7 (0 : Int32) h hw
def wp_X5_image (h : gw_H)  (Q : Int32 → gw_H → Prop) : Prop :=
  (wp_X2_takeAs h 47 1 (fun _ h_1 => Q ((gw_up h_1 0 3 (1 : Int32)) 1 3) (gw_up h_1 0 3 (1 : Int32))))
set_option maxRecDepth 100000 in
set_option maxHeartbeats 4000000 in
theorem gc_X5_image {l : Launch} {ad : Nat → Nat} {h : gw_H}  {Q : Int32 → gw_H → Prop}  (hw : wp_X5_image h  Q) : gw_C l yX5_image cX5_image 1 (some .int) 4 124 vC ad [.ref (ad 0)] h Q := by
  refine gw_entry (own := RX5) [some (.ref (ad 0))] pl_X5 rfl rfl (Nat.le_of_ble_eq_true rfl) rfl (fun X => ?_)
  unfold wp_X5_image at hw
  refine gw_aload_n dX5_image_0 rfl rfl ?_
  refine gw_getf (k := 2) (v := .ref (ad 47)) oX5 clX5 inUX5 (Nat.le_of_ble_eq_true rfl) rfl lfX5_19 rfl dX5_image_1 ?_
  refine gw_aload_n dX5_image_4 rfl rfl ?_
  refine gw_getf (k := 0) (v := .ref (ad 1)) oX5 clX5 inUX5 (Nat.le_of_ble_eq_true rfl) rfl lfX5_10 rfl dX5_image_5 ?_
  refine gw_callVv (As := [.ref (ad 1)]) (rest := []) rfl (gc_X2_takeAs hb47 hb1 hw) mX2_takeAs lmX5_181 (oX2 hb47) clX2 rfl rfl ⟨Nat.le_of_ble_eq_true rfl, Nat.le_of_ble_eq_true rfl⟩ (Nat.le_of_ble_eq_true rfl) dX5_image_8 (fun h_1 hw => ?_)
  refine gw_aload_n dX5_image_11 rfl rfl ?_
  refine gw_iconst dX5_image_12 ic_1 ?_
  refine gw_putf (k := 3) (ty := .boolean) oX5 clX5 inUX5 tyX5_ok nmX5 (Nat.le_of_ble_eq_true rfl) rfl lfX5_22 (by decide +kernel) rfl (by decide +kernel) st_X5_3 dX5_image_13 ?_
  refine gw_aload_n dX5_image_16 rfl rfl ?_
  refine gw_getf (k := 0) (v := .ref (ad 1)) oX5 clX5 inUX5 (Nat.le_of_ble_eq_true rfl) rfl lfX5_10 rfl dX5_image_17 ?_
  refine gw_getfN (k := 3) (v := .int ((gw_up h_1 0 3 (1 : Int32)) 1 3)) (oX2 hb1) clX2 inUX2 (Nat.le_of_ble_eq_true rfl) rfl lfX5_128 rfl dX5_image_20 ?_
  exact gw_ireturn (ty := .int) hw rfl rfl dX5_image_23
def wp_X5_inRow (h : gw_H) (p1 : Int32) (Q : Int32 → gw_H → Prop) : Prop :=
  ((¬ p1 = (-9 : Int32) → Q p1 h) ∧ (p1 = (-9 : Int32) → Q (9 : Int32) h))
set_option maxRecDepth 100000 in
set_option maxHeartbeats 4000000 in
theorem gc_X5_inRow {l : Launch} {ad : Nat → Nat} {h : gw_H} {p1 : Int32} {Q : Int32 → gw_H → Prop}  (hw : wp_X5_inRow h p1 Q) : gw_C l yX5_inRow cX5_inRow 1 (some .int) 0 0 vC ad [.int p1] h Q := by
  refine gw_entry (own := RX5) [some (.int p1)] pl_X5 rfl rfl (Nat.le_of_ble_eq_true rfl) rfl (fun X => ?_)
  unfold wp_X5_inRow at hw
  refine gw_iload_n dX5_inRow_0 rfl rfl ?_
  refine gw_bipush dX5_inRow_1 bp_m9 ?_
  refine gw_icmp_ne (tgt := 11) dX5_inRow_3 (by decide) (fun c_1 => ?_) (fun c_1 => ?_)
  · have hw := hw.1 c_1
    refine gw_iload_n dX5_inRow_11 rfl rfl ?_
    exact gw_ireturn (ty := .int) hw rfl rfl dX5_inRow_12
  · have hw := hw.2 c_1
    refine gw_bipush dX5_inRow_6 bp_9 ?_
    refine gw_goto (tgt := 12) dX5_inRow_8 (by decide) ?_
    exact gw_ireturn (ty := .int) hw rfl rfl dX5_inRow_12
def wk_X5_instead_142 (p1 : Int32) (K80 : Int32 → Int32 → Int32 → Int32 → gw_H → Prop) (Q : Int32 → gw_H → Prop) : Int32 → Int32 → Int32 → Int32 → gw_H → Prop :=
  fun x2 x3 x4 x5 h => (K80 x2 x3 x4 (x5 + (1 : Int32)) h)
set_option maxRecDepth 100000 in
set_option maxHeartbeats 4000000 in
theorem tk_X5_instead_142 {l : Launch} {ad : Nat → Nat} {X : gw_X} {p1 : Int32} {K80 : Int32 → Int32 → Int32 → Int32 → gw_H → Prop} {Q : Int32 → gw_H → Prop}  (hK80 : ∀ (y2 : Int32) (y3 : Int32) (y4 : Int32) (y5 : Int32) (h : gw_H), K80 y2 y3 y4 y5 h → gw_G l vC ad cX5_instead RX5 7 (some .int) 5 124 Q X h 80 [some (.ref (ad 0)), some (.int p1), some (.int y2), some (.int y3), some (.int y4), some (.int y5), none] []) (x2 : Int32) (x3 : Int32) (x4 : Int32) (x5 : Int32) (h : gw_H) (hw : wk_X5_instead_142 p1 K80 Q x2 x3 x4 x5 h) : gw_G l vC ad cX5_instead RX5 7 (some .int) 5 124 Q X h 142 [some (.ref (ad 0)), some (.int p1), some (.int x2), some (.int x3), some (.int x4), some (.int x5), none] [] := by
  unfold wk_X5_instead_142 at hw
  refine gw_iinc (ls' := [some (.ref (ad 0)), some (.int p1), some (.int x2), some (.int x3), some (.int x4), some (.int (x5 + (1 : Int32))), none]) dX5_instead_142 rfl (congrArg (fun z => x5 + z) ic_1) (Nat.le_of_ble_eq_true rfl) rfl ?_
  refine gw_goto (tgt := 80) dX5_instead_145 (by decide) ?_
  exact hK80 x2 x3 x4 (x5 + (1 : Int32)) h hw
def wl_X5_instead_80 (p1 : Int32)  (Q : Int32 → gw_H → Prop) : Nat → Int32 → Int32 → Int32 → Int32 → gw_H → Prop
  | 0 => fun _ _ _ _ _ => False
  | n + 1 => fun x2 x3 x4 x5 h => (((h 6 3) ≤ x5 → Q x4 h) ∧ (¬ (h 6 3) ≤ x5 → ((x5 = x2 → (wk_X5_instead_142 p1 (wl_X5_instead_80 p1  Q n) Q x2 x3 x4 x5 h)) ∧ (¬ x5 = x2 → (wp_X2_takeAs h 24 1 (fun _ h_14 => (wp_X2_give h_14 24 p1 x5 (fun _ h_15 => (wp_X5_hoursUntilRid h_15 p1 (fun r_17 h_16 => ((x3 ≤ r_17 → (wk_X5_instead_142 p1 (wl_X5_instead_80 p1  Q n) Q x2 x3 x4 x5 h_16)) ∧ (¬ x3 ≤ r_17 → (wk_X5_instead_142 p1 (wl_X5_instead_80 p1  Q n) Q x2 r_17 x5 x5 h_16)))))))))))))
set_option maxRecDepth 100000 in
set_option maxHeartbeats 4000000 in
theorem tl_X5_instead_80 {l : Launch} {ad : Nat → Nat} {X : gw_X} {p1 : Int32}  {Q : Int32 → gw_H → Prop}   : ∀ (n : Nat) (x2 : Int32) (x3 : Int32) (x4 : Int32) (x5 : Int32) (h : gw_H), wl_X5_instead_80 p1  Q n x2 x3 x4 x5 h → gw_G l vC ad cX5_instead RX5 7 (some .int) 5 124 Q X h 80 [some (.ref (ad 0)), some (.int p1), some (.int x2), some (.int x3), some (.int x4), some (.int x5), none] [] := by
  intro n
  induction n with
  | zero => intro x2 x3 x4 x5 h hw; exact hw.elim
  | succ n ih =>
    intro x2 x3 x4 x5 h hw
    unfold wl_X5_instead_80 at hw
    refine gw_iload dX5_instead_80 rfl ?_
    refine gw_aload_n dX5_instead_82 rfl rfl ?_
    refine gw_getf (k := 0) (v := .ref (ad 1)) oX5 clX5 inUX5 (Nat.le_of_ble_eq_true rfl) rfl lfX5_10 rfl dX5_instead_83 ?_
    refine gw_getfN (k := 1) (v := .ref (ad 6)) (oX2 hb1) clX2 inUX2 (Nat.le_of_ble_eq_true rfl) rfl lfX5_70 rfl dX5_instead_86 ?_
    refine gw_getfN (k := 3) (v := .int (h 6 3)) (oX3 hb1) clX3 inUX3 (Nat.le_of_ble_eq_true rfl) rfl lfX5_185 rfl dX5_instead_89 ?_
    refine gw_icmp_ge (tgt := 148) dX5_instead_92 (by decide) (fun c_12 => ?_) (fun c_12 => ?_)
    · have hw := hw.1 c_12
      refine gw_iload dX5_instead_148 rfl ?_
      exact gw_ireturn (ty := .int) hw rfl rfl dX5_instead_150
    · have hw := hw.2 c_12
      refine gw_iload dX5_instead_95 rfl ?_
      refine gw_iload_n dX5_instead_97 rfl rfl ?_
      refine gw_icmp_eq (tgt := 142) dX5_instead_98 (by decide) (fun c_13 => ?_) (fun c_13 => ?_)
      · have hw := hw.1 c_13
        exact tk_X5_instead_142   ih x2 x3 x4 x5 h hw
      · have hw := hw.2 c_13
        refine gw_aload_n dX5_instead_101 rfl rfl ?_
        refine gw_getf (k := 1) (v := .ref (ad 24)) oX5 clX5 inUX5 (Nat.le_of_ble_eq_true rfl) rfl lfX5_16 rfl dX5_instead_102 ?_
        refine gw_aload_n dX5_instead_105 rfl rfl ?_
        refine gw_getf (k := 0) (v := .ref (ad 1)) oX5 clX5 inUX5 (Nat.le_of_ble_eq_true rfl) rfl lfX5_10 rfl dX5_instead_106 ?_
        refine gw_callVv (As := [.ref (ad 1)]) (rest := []) rfl (gc_X2_takeAs hb24 hb1 hw) mX2_takeAs lmX5_181 (oX2 hb24) clX2 rfl rfl ⟨Nat.le_of_ble_eq_true rfl, Nat.le_of_ble_eq_true rfl⟩ (Nat.le_of_ble_eq_true rfl) dX5_instead_109 (fun h_14 hw => ?_)
        refine gw_aload_n dX5_instead_112 rfl rfl ?_
        refine gw_getf (k := 1) (v := .ref (ad 24)) oX5 clX5 inUX5 (Nat.le_of_ble_eq_true rfl) rfl lfX5_16 rfl dX5_instead_113 ?_
        refine gw_iload_n dX5_instead_116 rfl rfl ?_
        refine gw_iload dX5_instead_117 rfl ?_
        refine gw_callVv (As := [.int p1, .int x5]) (rest := []) rfl (gc_X2_give hb24 hw) mX2_give lmX5_155 (oX2 hb24) clX2 rfl rfl ⟨Nat.le_of_ble_eq_true rfl, Nat.le_of_ble_eq_true rfl⟩ (Nat.le_of_ble_eq_true rfl) dX5_instead_119 (fun h_15 hw => ?_)
        refine gw_aload_n dX5_instead_122 rfl rfl ?_
        refine gw_iload_n dX5_instead_123 rfl rfl ?_
        refine gw_callVi (As := [.int p1]) (rest := []) rfl (gc_X5_hoursUntilRid  hw) mX5_hoursUntilRid lmX5_192 oX5 clX5 rfl rfl ⟨Nat.le_of_ble_eq_true rfl, Nat.le_of_ble_eq_true rfl⟩ (Nat.le_of_ble_eq_true rfl) dX5_instead_124 (fun r_17 h_16 hw => ?_)
        refine gw_istore (ls' := [some (.ref (ad 0)), some (.int p1), some (.int x2), some (.int x3), some (.int x4), some (.int x5), some (.int r_17)]) dX5_instead_127 (Nat.le_of_ble_eq_true rfl) rfl ?_
        refine gw_iload dX5_instead_129 rfl ?_
        refine gw_iload_n dX5_instead_131 rfl rfl ?_
        refine gw_icmp_ge (tgt := 142) dX5_instead_132 (by decide) (fun c_18 => ?_) (fun c_18 => ?_)
        · have hw := hw.1 c_18
          refine gw_forget (ls' := [some (.ref (ad 0)), some (.int p1), some (.int x2), some (.int x3), some (.int x4), some (.int x5), none]) (gw_sub.s (gw_sub.s (gw_sub.s (gw_sub.s (gw_sub.s (gw_sub.s (gw_sub.n gw_sub.z))))))) ?_
          exact tk_X5_instead_142   ih x2 x3 x4 x5 h_16 hw
        · have hw := hw.2 c_18
          refine gw_iload dX5_instead_135 rfl ?_
          refine gw_istore_n (ls' := [some (.ref (ad 0)), some (.int p1), some (.int x2), some (.int r_17), some (.int x4), some (.int x5), some (.int r_17)]) dX5_instead_137 rfl (Nat.le_of_ble_eq_true rfl) rfl ?_
          refine gw_iload dX5_instead_138 rfl ?_
          refine gw_istore (ls' := [some (.ref (ad 0)), some (.int p1), some (.int x2), some (.int r_17), some (.int x5), some (.int x5), some (.int r_17)]) dX5_instead_140 (Nat.le_of_ble_eq_true rfl) rfl ?_
          refine gw_forget (ls' := [some (.ref (ad 0)), some (.int p1), some (.int x2), some (.int r_17), some (.int x5), some (.int x5), none]) (gw_sub.s (gw_sub.s (gw_sub.s (gw_sub.s (gw_sub.s (gw_sub.s (gw_sub.n gw_sub.z))))))) ?_
          exact tk_X5_instead_142   ih x2 r_17 x5 x5 h_16 hw
def wp_X5_instead (h : gw_H) (p1 : Int32) (Q : Int32 → gw_H → Prop) : Prop :=
  (wp_X1_has h 1 p1 (fun r_2 h_1 => ((¬ r_2 = 0 → (wp_X1_hasSong h_1 1 p1 (fun r_5 h_4 => ((¬ r_5 = 0 → (wp_X5_at h_4 (14) 6 p1 (fun r_8 h_7 => (wp_X2_takeAs h_7 24 1 (fun _ h_9 => (wp_X5_hoursUntilRid h_9 p1 (fun r_11 h_10 => (∃ n_19 : Nat, wl_X5_instead_80 p1  Q n_19 r_8 r_11 (-9 : Int32) (0 : Int32) h_10)))))))) ∧ (r_5 = 0 → (wp_X5_refuse h_4 (-3 : Int32) (fun r_21 h_20 => Q r_21 h_20))))))) ∧ (r_2 = 0 → (wp_X5_refuse h_1 (-1 : Int32) (fun r_23 h_22 => Q r_23 h_22))))))
set_option maxRecDepth 100000 in
set_option maxHeartbeats 4000000 in
theorem gc_X5_instead {l : Launch} {ad : Nat → Nat} {h : gw_H} {p1 : Int32} {Q : Int32 → gw_H → Prop}  (hw : wp_X5_instead h p1 Q) : gw_C l yX5_instead cX5_instead 7 (some .int) 5 124 vC ad [.ref (ad 0), .int p1] h Q := by
  refine gw_entry (own := RX5) [some (.ref (ad 0)), some (.int p1), none, none, none, none, none] pl_X5 rfl rfl (Nat.le_of_ble_eq_true rfl) rfl (fun X => ?_)
  unfold wp_X5_instead at hw
  refine gw_aload_n dX5_instead_0 rfl rfl ?_
  refine gw_getf (k := 0) (v := .ref (ad 1)) oX5 clX5 inUX5 (Nat.le_of_ble_eq_true rfl) rfl lfX5_10 rfl dX5_instead_1 ?_
  refine gw_getfN (k := 2) (v := .ref (ad 10)) (oX2 hb1) clX2 inUX2 (Nat.le_of_ble_eq_true rfl) rfl lfX5_96 rfl dX5_instead_4 ?_
  refine gw_iload_n dX5_instead_7 rfl rfl ?_
  refine gw_callVi (As := [.int p1]) (rest := []) rfl (gc_X1_has hb1 hw) mX1_has lmX5_105 (oX1 hb1) clX1 rfl rfl ⟨Nat.le_of_ble_eq_true rfl, Nat.le_of_ble_eq_true rfl⟩ (Nat.le_of_ble_eq_true rfl) dX5_instead_8 (fun r_2 h_1 hw => ?_)
  refine gw_if_ne (tgt := 20) dX5_instead_11 (by decide) (fun c_3 => ?_) (fun c_3 => ?_)
  · have hw := hw.1 c_3
    refine gw_aload_n dX5_instead_20 rfl rfl ?_
    refine gw_getf (k := 0) (v := .ref (ad 1)) oX5 clX5 inUX5 (Nat.le_of_ble_eq_true rfl) rfl lfX5_10 rfl dX5_instead_21 ?_
    refine gw_getfN (k := 2) (v := .ref (ad 10)) (oX2 hb1) clX2 inUX2 (Nat.le_of_ble_eq_true rfl) rfl lfX5_96 rfl dX5_instead_24 ?_
    refine gw_iload_n dX5_instead_27 rfl rfl ?_
    refine gw_callVi (As := [.int p1]) (rest := []) rfl (gc_X1_hasSong hb1 hw) mX1_hasSong lmX5_159 (oX1 hb1) clX1 rfl rfl ⟨Nat.le_of_ble_eq_true rfl, Nat.le_of_ble_eq_true rfl⟩ (Nat.le_of_ble_eq_true rfl) dX5_instead_28 (fun r_5 h_4 hw => ?_)
    refine gw_if_ne (tgt := 41) dX5_instead_31 (by decide) (fun c_6 => ?_) (fun c_6 => ?_)
    · have hw := hw.1 c_6
      refine gw_aload_n dX5_instead_41 rfl rfl ?_
      refine gw_getf (k := 0) (v := .ref (ad 1)) oX5 clX5 inUX5 (Nat.le_of_ble_eq_true rfl) rfl lfX5_10 rfl dX5_instead_42 ?_
      refine gw_getfN (k := 2) (v := .ref (ad 10)) (oX2 hb1) clX2 inUX2 (Nat.le_of_ble_eq_true rfl) rfl lfX5_96 rfl dX5_instead_45 ?_
      refine gw_getfN (k := 3) (v := .ref (ad 14)) (oX1 hb1) clX1 inUX1 (Nat.le_of_ble_eq_true rfl) rfl lfX5_113 rfl dX5_instead_48 ?_
      refine gw_iload_n dX5_instead_51 rfl rfl ?_
      refine gw_callSi (As := [.ref (ad 14), .int p1]) (rest := []) rfl (gc_X5_at (ar_13 hb1) hw) mX5_at lmX5_83 rfl rfl ⟨Nat.le_of_ble_eq_true rfl, Nat.le_of_ble_eq_true rfl⟩ (Nat.le_of_ble_eq_true rfl) dX5_instead_52 (fun r_8 h_7 hw => ?_)
      refine gw_istore_n (ls' := [some (.ref (ad 0)), some (.int p1), some (.int r_8), none, none, none, none]) dX5_instead_55 rfl (Nat.le_of_ble_eq_true rfl) rfl ?_
      refine gw_aload_n dX5_instead_56 rfl rfl ?_
      refine gw_getf (k := 1) (v := .ref (ad 24)) oX5 clX5 inUX5 (Nat.le_of_ble_eq_true rfl) rfl lfX5_16 rfl dX5_instead_57 ?_
      refine gw_aload_n dX5_instead_60 rfl rfl ?_
      refine gw_getf (k := 0) (v := .ref (ad 1)) oX5 clX5 inUX5 (Nat.le_of_ble_eq_true rfl) rfl lfX5_10 rfl dX5_instead_61 ?_
      refine gw_callVv (As := [.ref (ad 1)]) (rest := []) rfl (gc_X2_takeAs hb24 hb1 hw) mX2_takeAs lmX5_181 (oX2 hb24) clX2 rfl rfl ⟨Nat.le_of_ble_eq_true rfl, Nat.le_of_ble_eq_true rfl⟩ (Nat.le_of_ble_eq_true rfl) dX5_instead_64 (fun h_9 hw => ?_)
      refine gw_aload_n dX5_instead_67 rfl rfl ?_
      refine gw_iload_n dX5_instead_68 rfl rfl ?_
      refine gw_callVi (As := [.int p1]) (rest := []) rfl (gc_X5_hoursUntilRid  hw) mX5_hoursUntilRid lmX5_192 oX5 clX5 rfl rfl ⟨Nat.le_of_ble_eq_true rfl, Nat.le_of_ble_eq_true rfl⟩ (Nat.le_of_ble_eq_true rfl) dX5_instead_69 (fun r_11 h_10 hw => ?_)
      refine gw_istore_n (ls' := [some (.ref (ad 0)), some (.int p1), some (.int r_8), some (.int r_11), none, none, none]) dX5_instead_72 rfl (Nat.le_of_ble_eq_true rfl) rfl ?_
      refine gw_bipush dX5_instead_73 bp_m9 ?_
      refine gw_istore (ls' := [some (.ref (ad 0)), some (.int p1), some (.int r_8), some (.int r_11), some (.int (-9 : Int32)), none, none]) dX5_instead_75 (Nat.le_of_ble_eq_true rfl) rfl ?_
      refine gw_iconst dX5_instead_77 ic_0 ?_
      refine gw_istore (ls' := [some (.ref (ad 0)), some (.int p1), some (.int r_8), some (.int r_11), some (.int (-9 : Int32)), some (.int (0 : Int32)), none]) dX5_instead_78 (Nat.le_of_ble_eq_true rfl) rfl ?_
      obtain ⟨n_19, hw⟩ := hw
      exact tl_X5_instead_80   n_19 r_8 r_11 (-9 : Int32) (0 : Int32) h_10 hw
    · have hw := hw.2 c_6
      refine gw_aload_n dX5_instead_34 rfl rfl ?_
      refine gw_bipush dX5_instead_35 bp_m3 ?_
      refine gw_callVi (As := [.int (-3 : Int32)]) (rest := []) rfl (gc_X5_refuse  hw) mX5_refuse lmX5_48 oX5 clX5 rfl rfl ⟨Nat.le_of_ble_eq_true rfl, Nat.le_of_ble_eq_true rfl⟩ (Nat.le_of_ble_eq_true rfl) dX5_instead_37 (fun r_21 h_20 hw => ?_)
      exact gw_ireturn (ty := .int) hw rfl rfl dX5_instead_40
  · have hw := hw.2 c_3
    refine gw_aload_n dX5_instead_14 rfl rfl ?_
    refine gw_iconst dX5_instead_15 ic_m1 ?_
    refine gw_callVi (As := [.int (-1 : Int32)]) (rest := []) rfl (gc_X5_refuse  hw) mX5_refuse lmX5_48 oX5 clX5 rfl rfl ⟨Nat.le_of_ble_eq_true rfl, Nat.le_of_ble_eq_true rfl⟩ (Nat.le_of_ble_eq_true rfl) dX5_instead_16 (fun r_23 h_22 hw => ?_)
    exact gw_ireturn (ty := .int) hw rfl rfl dX5_instead_19
def wl_X5_unlikeTold_2 (b : Nat) (p2 : Int32)  (Q : Int32 → gw_H → Prop) : Nat → Int32 → gw_H → Prop
  | 0 => fun _ _ => False
  | n + 1 => fun x3 h => ((p2 ≤ x3 → Q (-9 : Int32) h) ∧ (¬ p2 ≤ x3 → (wp_X5_at h (72) 6 x3 (fun r_3 h_2 => (wp_X5_at h_2 (b + 13) 6 x3 (fun r_5 h_4 => (wp_X5_inRow h_4 r_5 (fun r_7 h_6 => ((r_3 = r_7 → ((wl_X5_unlikeTold_2 b p2  Q n) (x3 + (1 : Int32)) h_6)) ∧ (¬ r_3 = r_7 → Q x3 h_6))))))))))
set_option maxRecDepth 100000 in
set_option maxHeartbeats 4000000 in
theorem tl_X5_unlikeTold_2 {l : Launch} {ad : Nat → Nat} {X : gw_X} {b : Nat} {p2 : Int32}  {Q : Int32 → gw_H → Prop} (hb : gw_b b)  : ∀ (n : Nat) (x3 : Int32) (h : gw_H), wl_X5_unlikeTold_2 b p2  Q n x3 h → gw_G l vC ad cX5_unlikeTold RX5 4 (some .int) 1 21 Q X h 2 [some (.ref (ad 0)), some (.ref (ad (b + 9))), some (.int p2), some (.int x3)] [] := by
  intro n
  induction n with
  | zero => intro x3 h hw; exact hw.elim
  | succ n ih =>
    intro x3 h hw
    unfold wl_X5_unlikeTold_2 at hw
    refine gw_iload_n dX5_unlikeTold_2 rfl rfl ?_
    refine gw_iload_n dX5_unlikeTold_3 rfl rfl ?_
    refine gw_icmp_ge (tgt := 37) dX5_unlikeTold_4 (by decide) (fun c_1 => ?_) (fun c_1 => ?_)
    · have hw := hw.1 c_1
      refine gw_bipush dX5_unlikeTold_37 bp_m9 ?_
      exact gw_ireturn (ty := .int) hw rfl rfl dX5_unlikeTold_39
    · have hw := hw.2 c_1
      refine gw_aload_n dX5_unlikeTold_7 rfl rfl ?_
      refine gw_getf (k := 5) (v := .ref (ad 72)) oX5 clX5 inUX5 (Nat.le_of_ble_eq_true rfl) rfl lfX5_33 rfl dX5_unlikeTold_8 ?_
      refine gw_iload_n dX5_unlikeTold_11 rfl rfl ?_
      refine gw_callSi (As := [.ref (ad 72), .int x3]) (rest := []) rfl (gc_X5_at at_72 hw) mX5_at lmX5_83 rfl rfl ⟨Nat.le_of_ble_eq_true rfl, Nat.le_of_ble_eq_true rfl⟩ (Nat.le_of_ble_eq_true rfl) dX5_unlikeTold_12 (fun r_3 h_2 hw => ?_)
      refine gw_aload_n dX5_unlikeTold_15 rfl rfl ?_
      refine gw_getfN (k := 3) (v := .ref (ad (b + 13))) (oX1 hb) clX1 inUX1 (Nat.le_of_ble_eq_true rfl) rfl lfX5_113 rfl dX5_unlikeTold_16 ?_
      refine gw_iload_n dX5_unlikeTold_19 rfl rfl ?_
      refine gw_callSi (As := [.ref (ad (b + 13)), .int x3]) (rest := [.int r_3]) rfl (gc_X5_at (ar_13 hb) hw) mX5_at lmX5_83 rfl rfl ⟨Nat.le_of_ble_eq_true rfl, Nat.le_of_ble_eq_true rfl⟩ (Nat.le_of_ble_eq_true rfl) dX5_unlikeTold_20 (fun r_5 h_4 hw => ?_)
      refine gw_callSi (As := [.int r_5]) (rest := [.int r_3]) rfl (gc_X5_inRow  hw) mX5_inRow lmX5_217 rfl rfl ⟨Nat.le_of_ble_eq_true rfl, Nat.le_of_ble_eq_true rfl⟩ (Nat.le_of_ble_eq_true rfl) dX5_unlikeTold_23 (fun r_7 h_6 hw => ?_)
      refine gw_icmp_eq (tgt := 31) dX5_unlikeTold_26 (by decide) (fun c_8 => ?_) (fun c_8 => ?_)
      · have hw := hw.1 c_8
        refine gw_iinc (ls' := [some (.ref (ad 0)), some (.ref (ad (b + 9))), some (.int p2), some (.int (x3 + (1 : Int32)))]) dX5_unlikeTold_31 rfl (congrArg (fun z => x3 + z) ic_1) (Nat.le_of_ble_eq_true rfl) rfl ?_
        refine gw_goto (tgt := 2) dX5_unlikeTold_34 (by decide) ?_
        exact ih (x3 + (1 : Int32)) h_6 hw
      · have hw := hw.2 c_8
        refine gw_iload_n dX5_unlikeTold_29 rfl rfl ?_
        exact gw_ireturn (ty := .int) hw rfl rfl dX5_unlikeTold_30
def wp_X5_unlikeTold (h : gw_H) (b : Nat) (p2 : Int32) (Q : Int32 → gw_H → Prop) : Prop :=
  (∃ n_9 : Nat, wl_X5_unlikeTold_2 b p2  Q n_9 (0 : Int32) h)
set_option maxRecDepth 100000 in
set_option maxHeartbeats 4000000 in
theorem gc_X5_unlikeTold {l : Launch} {ad : Nat → Nat} {h : gw_H} {b : Nat} {p2 : Int32} {Q : Int32 → gw_H → Prop} (hb : gw_b b) (hw : wp_X5_unlikeTold h b p2 Q) : gw_C l yX5_unlikeTold cX5_unlikeTold 4 (some .int) 1 21 vC ad [.ref (ad 0), .ref (ad (b + 9)), .int p2] h Q := by
  refine gw_entry (own := RX5) [some (.ref (ad 0)), some (.ref (ad (b + 9))), some (.int p2), none] pl_X5 rfl rfl (Nat.le_of_ble_eq_true rfl) rfl (fun X => ?_)
  unfold wp_X5_unlikeTold at hw
  refine gw_iconst dX5_unlikeTold_0 ic_0 ?_
  refine gw_istore_n (ls' := [some (.ref (ad 0)), some (.ref (ad (b + 9))), some (.int p2), some (.int (0 : Int32))]) dX5_unlikeTold_1 rfl (Nat.le_of_ble_eq_true rfl) rfl ?_
  obtain ⟨n_9, hw⟩ := hw
  exact tl_X5_unlikeTold_2 hb  n_9 (0 : Int32) h hw
def wk_X5_judge_53   (Q : Int32 → gw_H → Prop) : Int32 → Int32 → Int32 → gw_H → Prop :=
  fun x1 x2 s0 h => ((¬ x2 = (-9 : Int32) → Q x2 (gw_up h 0 6 (0 : Int32))) ∧ (x2 = (-9 : Int32) → ((s0 = 0 → Q x1 (gw_up h 0 6 (0 : Int32))) ∧ (¬ s0 = 0 → Q x2 (gw_up h 0 6 (0 : Int32))))))
set_option maxRecDepth 100000 in
set_option maxHeartbeats 4000000 in
theorem tk_X5_judge_53 {l : Launch} {ad : Nat → Nat} {X : gw_X}   {Q : Int32 → gw_H → Prop}   (x1 : Int32) (x2 : Int32) (s0 : Int32) (h : gw_H) (hw : wk_X5_judge_53   Q x1 x2 s0 h) : gw_G l vC ad cX5_judge RX5 4 (some .int) 2 44 Q X h 53 [some (.ref (ad 0)), some (.int x1), some (.int x2), none] [.int s0] := by
  unfold wk_X5_judge_53 at hw
  refine gw_istore_n (ls' := [some (.ref (ad 0)), some (.int x1), some (.int x2), some (.int s0)]) dX5_judge_53 rfl (Nat.le_of_ble_eq_true rfl) rfl ?_
  refine gw_aload_n dX5_judge_54 rfl rfl ?_
  refine gw_iconst dX5_judge_55 ic_0 ?_
  refine gw_putf (k := 6) (ty := .int) oX5 clX5 inUX5 tyX5_ok nmX5 (Nat.le_of_ble_eq_true rfl) rfl lfX5_37 (by decide +kernel) rfl rfl st_X5_6 dX5_judge_56 ?_
  refine gw_iload_n dX5_judge_59 rfl rfl ?_
  refine gw_bipush dX5_judge_60 bp_m9 ?_
  refine gw_icmp_ne (tgt := 69) dX5_judge_62 (by decide) (fun c_4 => ?_) (fun c_4 => ?_)
  · have hw := hw.1 c_4
    refine gw_iload_n dX5_judge_69 rfl rfl ?_
    exact gw_ireturn (ty := .int) hw rfl rfl dX5_judge_70
  · have hw := hw.2 c_4
    refine gw_iload_n dX5_judge_65 rfl rfl ?_
    refine gw_if_eq (tgt := 71) dX5_judge_66 (by decide) (fun c_5 => ?_) (fun c_5 => ?_)
    · have hw := hw.1 c_5
      refine gw_iload_n dX5_judge_71 rfl rfl ?_
      exact gw_ireturn (ty := .int) hw rfl rfl dX5_judge_72
    · have hw := hw.2 c_5
      refine gw_iload_n dX5_judge_69 rfl rfl ?_
      exact gw_ireturn (ty := .int) hw rfl rfl dX5_judge_70
def wp_X5_judge (h : gw_H)  (Q : Int32 → gw_H → Prop) : Prop :=
  (wp_X5_unlikeTold h 1 (if (h 10 8) < (h 0 6) then (h 10 8) else (h 0 6)) (fun r_2 h_1 => ((¬ (h_1 0 6) = (h_1 10 8) → (wk_X5_judge_53   Q (if (h 10 8) < (h 0 6) then (h 10 8) else (h 0 6)) r_2 (0 : Int32) h_1)) ∧ ((h_1 0 6) = (h_1 10 8) → (wk_X5_judge_53   Q (if (h 10 8) < (h 0 6) then (h 10 8) else (h 0 6)) r_2 (1 : Int32) h_1)))))
set_option maxRecDepth 100000 in
set_option maxHeartbeats 4000000 in
theorem gc_X5_judge {l : Launch} {ad : Nat → Nat} {h : gw_H}  {Q : Int32 → gw_H → Prop}  (hw : wp_X5_judge h  Q) : gw_C l yX5_judge cX5_judge 4 (some .int) 2 44 vC ad [.ref (ad 0)] h Q := by
  refine gw_entry (own := RX5) [some (.ref (ad 0)), none, none, none] pl_X5 rfl rfl (Nat.le_of_ble_eq_true rfl) rfl (fun X => ?_)
  unfold wp_X5_judge at hw
  refine gw_aload_n dX5_judge_0 rfl rfl ?_
  refine gw_getf (k := 6) (v := .int (h 0 6)) oX5 clX5 inUX5 (Nat.le_of_ble_eq_true rfl) rfl lfX5_37 rfl dX5_judge_1 ?_
  refine gw_aload_n dX5_judge_4 rfl rfl ?_
  refine gw_getf (k := 0) (v := .ref (ad 1)) oX5 clX5 inUX5 (Nat.le_of_ble_eq_true rfl) rfl lfX5_10 rfl dX5_judge_5 ?_
  refine gw_getfN (k := 2) (v := .ref (ad 10)) (oX2 hb1) clX2 inUX2 (Nat.le_of_ble_eq_true rfl) rfl lfX5_96 rfl dX5_judge_8 ?_
  refine gw_getfN (k := 8) (v := .int (h 10 8)) (oX1 hb1) clX1 inUX1 (Nat.le_of_ble_eq_true rfl) rfl lfX5_202 rfl dX5_judge_11 ?_
  refine gw_mmin lmX5_220 ⟨Nat.le_of_ble_eq_true rfl, Nat.le_of_ble_eq_true rfl⟩ (Nat.le_of_ble_eq_true rfl) dX5_judge_14 ?_
  refine gw_istore_n (ls' := [some (.ref (ad 0)), some (.int (if (h 10 8) < (h 0 6) then (h 10 8) else (h 0 6))), none, none]) dX5_judge_17 rfl (Nat.le_of_ble_eq_true rfl) rfl ?_
  refine gw_aload_n dX5_judge_18 rfl rfl ?_
  refine gw_aload_n dX5_judge_19 rfl rfl ?_
  refine gw_getf (k := 0) (v := .ref (ad 1)) oX5 clX5 inUX5 (Nat.le_of_ble_eq_true rfl) rfl lfX5_10 rfl dX5_judge_20 ?_
  refine gw_getfN (k := 2) (v := .ref (ad 10)) (oX2 hb1) clX2 inUX2 (Nat.le_of_ble_eq_true rfl) rfl lfX5_96 rfl dX5_judge_23 ?_
  refine gw_iload_n dX5_judge_26 rfl rfl ?_
  refine gw_callVi (As := [.ref (ad 10), .int (if (h 10 8) < (h 0 6) then (h 10 8) else (h 0 6))]) (rest := []) rfl (gc_X5_unlikeTold hb1 hw) mX5_unlikeTold lmX5_225 oX5 clX5 rfl rfl ⟨Nat.le_of_ble_eq_true rfl, Nat.le_of_ble_eq_true rfl⟩ (Nat.le_of_ble_eq_true rfl) dX5_judge_27 (fun r_2 h_1 hw => ?_)
  refine gw_istore_n (ls' := [some (.ref (ad 0)), some (.int (if (h 10 8) < (h 0 6) then (h 10 8) else (h 0 6))), some (.int r_2), none]) dX5_judge_30 rfl (Nat.le_of_ble_eq_true rfl) rfl ?_
  refine gw_aload_n dX5_judge_31 rfl rfl ?_
  refine gw_getf (k := 6) (v := .int (h_1 0 6)) oX5 clX5 inUX5 (Nat.le_of_ble_eq_true rfl) rfl lfX5_37 rfl dX5_judge_32 ?_
  refine gw_aload_n dX5_judge_35 rfl rfl ?_
  refine gw_getf (k := 0) (v := .ref (ad 1)) oX5 clX5 inUX5 (Nat.le_of_ble_eq_true rfl) rfl lfX5_10 rfl dX5_judge_36 ?_
  refine gw_getfN (k := 2) (v := .ref (ad 10)) (oX2 hb1) clX2 inUX2 (Nat.le_of_ble_eq_true rfl) rfl lfX5_96 rfl dX5_judge_39 ?_
  refine gw_getfN (k := 8) (v := .int (h_1 10 8)) (oX1 hb1) clX1 inUX1 (Nat.le_of_ble_eq_true rfl) rfl lfX5_202 rfl dX5_judge_42 ?_
  refine gw_icmp_ne (tgt := 52) dX5_judge_45 (by decide) (fun c_3 => ?_) (fun c_3 => ?_)
  · have hw := hw.1 c_3
    refine gw_iconst dX5_judge_52 ic_0 ?_
    exact tk_X5_judge_53   (if (h 10 8) < (h 0 6) then (h 10 8) else (h 0 6)) r_2 (0 : Int32) h_1 hw
  · have hw := hw.2 c_3
    refine gw_iconst dX5_judge_48 ic_1 ?_
    refine gw_goto (tgt := 53) dX5_judge_49 (by decide) ?_
    exact tk_X5_judge_53   (if (h 10 8) < (h 0 6) then (h 10 8) else (h 0 6)) r_2 (1 : Int32) h_1 hw
def wk_X5_lasts_74 (p1 : Int32) (K32 : Int32 → Int32 → Int32 → gw_H → Prop) (Q : Int32 → gw_H → Prop) : Int32 → Int32 → Int32 → gw_H → Prop :=
  fun x3 x4 x5 h => (K32 x3 x4 (x5 + (1 : Int32)) h)
set_option maxRecDepth 100000 in
set_option maxHeartbeats 4000000 in
theorem tk_X5_lasts_74 {l : Launch} {ad : Nat → Nat} {X : gw_X} {p1 : Int32} {K32 : Int32 → Int32 → Int32 → gw_H → Prop} {Q : Int32 → gw_H → Prop}  (hK32 : ∀ (y3 : Int32) (y4 : Int32) (y5 : Int32) (h : gw_H), K32 y3 y4 y5 h → gw_G l vC ad cX5_lasts RX5 7 (some .int) 6 145 Q X h 32 [some (.ref (ad 0)), some (.int p1), none, some (.int y3), some (.int y4), some (.int y5), none] []) (x3 : Int32) (x4 : Int32) (x5 : Int32) (h : gw_H) (hw : wk_X5_lasts_74 p1 K32 Q x3 x4 x5 h) : gw_G l vC ad cX5_lasts RX5 7 (some .int) 6 145 Q X h 74 [some (.ref (ad 0)), some (.int p1), none, some (.int x3), some (.int x4), some (.int x5), none] [] := by
  unfold wk_X5_lasts_74 at hw
  refine gw_iinc (ls' := [some (.ref (ad 0)), some (.int p1), none, some (.int x3), some (.int x4), some (.int (x5 + (1 : Int32))), none]) dX5_lasts_74 rfl (congrArg (fun z => x5 + z) ic_1) (Nat.le_of_ble_eq_true rfl) rfl ?_
  refine gw_goto (tgt := 32) dX5_lasts_77 (by decide) ?_
  exact hK32 x3 x4 (x5 + (1 : Int32)) h hw
def wl_X5_lasts_32 (p1 : Int32)  (Q : Int32 → gw_H → Prop) : Nat → Int32 → Int32 → Int32 → gw_H → Prop
  | 0 => fun _ _ _ _ => False
  | n + 1 => fun x3 x4 x5 h => (((h 29 3) ≤ x5 → Q x4 h) ∧ (¬ (h 29 3) ≤ x5 → (wp_X1_holders h 24 x5 (fun r_7 h_6 => ((r_7 ≤ x3 → (wk_X5_lasts_74 p1 (wl_X5_lasts_32 p1  Q n) Q x3 x4 x5 h_6)) ∧ (¬ r_7 ≤ x3 → (wk_X5_lasts_74 p1 (wl_X5_lasts_32 p1  Q n) Q r_7 x5 x5 h_6)))))))
set_option maxRecDepth 100000 in
set_option maxHeartbeats 4000000 in
theorem tl_X5_lasts_32 {l : Launch} {ad : Nat → Nat} {X : gw_X} {p1 : Int32}  {Q : Int32 → gw_H → Prop}   : ∀ (n : Nat) (x3 : Int32) (x4 : Int32) (x5 : Int32) (h : gw_H), wl_X5_lasts_32 p1  Q n x3 x4 x5 h → gw_G l vC ad cX5_lasts RX5 7 (some .int) 6 145 Q X h 32 [some (.ref (ad 0)), some (.int p1), none, some (.int x3), some (.int x4), some (.int x5), none] [] := by
  intro n
  induction n with
  | zero => intro x3 x4 x5 h hw; exact hw.elim
  | succ n ih =>
    intro x3 x4 x5 h hw
    unfold wl_X5_lasts_32 at hw
    refine gw_iload dX5_lasts_32 rfl ?_
    refine gw_aload_n dX5_lasts_34 rfl rfl ?_
    refine gw_getf (k := 1) (v := .ref (ad 24)) oX5 clX5 inUX5 (Nat.le_of_ble_eq_true rfl) rfl lfX5_16 rfl dX5_lasts_35 ?_
    refine gw_getfN (k := 1) (v := .ref (ad 29)) (oX2 hb24) clX2 inUX2 (Nat.le_of_ble_eq_true rfl) rfl lfX5_70 rfl dX5_lasts_38 ?_
    refine gw_getfN (k := 3) (v := .int (h 29 3)) (oX3 hb24) clX3 inUX3 (Nat.le_of_ble_eq_true rfl) rfl lfX5_185 rfl dX5_lasts_41 ?_
    refine gw_icmp_ge (tgt := 80) dX5_lasts_44 (by decide) (fun c_5 => ?_) (fun c_5 => ?_)
    · have hw := hw.1 c_5
      refine gw_iload dX5_lasts_80 rfl ?_
      exact gw_ireturn (ty := .int) hw rfl rfl dX5_lasts_82
    · have hw := hw.2 c_5
      refine gw_aload_n dX5_lasts_47 rfl rfl ?_
      refine gw_getf (k := 1) (v := .ref (ad 24)) oX5 clX5 inUX5 (Nat.le_of_ble_eq_true rfl) rfl lfX5_16 rfl dX5_lasts_48 ?_
      refine gw_getfN (k := 2) (v := .ref (ad 33)) (oX2 hb24) clX2 inUX2 (Nat.le_of_ble_eq_true rfl) rfl lfX5_96 rfl dX5_lasts_51 ?_
      refine gw_iload dX5_lasts_54 rfl ?_
      refine gw_callVi (As := [.int x5]) (rest := []) rfl (gc_X1_holders hb24 hw) mX1_holders lmX5_100 (oX1 hb24) clX1 rfl rfl ⟨Nat.le_of_ble_eq_true rfl, Nat.le_of_ble_eq_true rfl⟩ (Nat.le_of_ble_eq_true rfl) dX5_lasts_56 (fun r_7 h_6 hw => ?_)
      refine gw_istore (ls' := [some (.ref (ad 0)), some (.int p1), none, some (.int x3), some (.int x4), some (.int x5), some (.int r_7)]) dX5_lasts_59 (Nat.le_of_ble_eq_true rfl) rfl ?_
      refine gw_iload dX5_lasts_61 rfl ?_
      refine gw_iload_n dX5_lasts_63 rfl rfl ?_
      refine gw_icmp_le (tgt := 74) dX5_lasts_64 (by decide) (fun c_8 => ?_) (fun c_8 => ?_)
      · have hw := hw.1 c_8
        refine gw_forget (ls' := [some (.ref (ad 0)), some (.int p1), none, some (.int x3), some (.int x4), some (.int x5), none]) (gw_sub.s (gw_sub.s (gw_sub.n (gw_sub.s (gw_sub.s (gw_sub.s (gw_sub.n gw_sub.z))))))) ?_
        exact tk_X5_lasts_74   ih x3 x4 x5 h_6 hw
      · have hw := hw.2 c_8
        refine gw_iload dX5_lasts_67 rfl ?_
        refine gw_istore_n (ls' := [some (.ref (ad 0)), some (.int p1), none, some (.int r_7), some (.int x4), some (.int x5), some (.int r_7)]) dX5_lasts_69 rfl (Nat.le_of_ble_eq_true rfl) rfl ?_
        refine gw_iload dX5_lasts_70 rfl ?_
        refine gw_istore (ls' := [some (.ref (ad 0)), some (.int p1), none, some (.int r_7), some (.int x5), some (.int x5), some (.int r_7)]) dX5_lasts_72 (Nat.le_of_ble_eq_true rfl) rfl ?_
        refine gw_forget (ls' := [some (.ref (ad 0)), some (.int p1), none, some (.int r_7), some (.int x5), some (.int x5), none]) (gw_sub.s (gw_sub.s (gw_sub.n (gw_sub.s (gw_sub.s (gw_sub.s (gw_sub.n gw_sub.z))))))) ?_
        exact tk_X5_lasts_74   ih r_7 x5 x5 h_6 hw
def wp_X5_lasts (h : gw_H) (p1 : Int32) (Q : Int32 → gw_H → Prop) : Prop :=
  (wp_X5_outside h p1 (0 : Int32) (60 : Int32) (fun r_2 h_1 => ((r_2 = 0 → (wp_X5_imagine h_1 p1 (fun _ h_4 => (∃ n_9 : Nat, wl_X5_lasts_32 p1  Q n_9 (0 : Int32) (-9 : Int32) (0 : Int32) h_4)))) ∧ (¬ r_2 = 0 → (wp_X5_refuse h_1 r_2 (fun r_11 h_10 => Q r_11 h_10))))))
set_option maxRecDepth 100000 in
set_option maxHeartbeats 4000000 in
theorem gc_X5_lasts {l : Launch} {ad : Nat → Nat} {h : gw_H} {p1 : Int32} {Q : Int32 → gw_H → Prop}  (hw : wp_X5_lasts h p1 Q) : gw_C l yX5_lasts cX5_lasts 7 (some .int) 6 145 vC ad [.ref (ad 0), .int p1] h Q := by
  refine gw_entry (own := RX5) [some (.ref (ad 0)), some (.int p1), none, none, none, none, none] pl_X5 rfl rfl (Nat.le_of_ble_eq_true rfl) rfl (fun X => ?_)
  unfold wp_X5_lasts at hw
  refine gw_iload_n dX5_lasts_0 rfl rfl ?_
  refine gw_iconst dX5_lasts_1 ic_0 ?_
  refine gw_bipush dX5_lasts_2 bp_60 ?_
  refine gw_callSi (As := [.int p1, .int (0 : Int32), .int (60 : Int32)]) (rest := []) rfl (gc_X5_outside  hw) mX5_outside lmX5_44 rfl rfl ⟨Nat.le_of_ble_eq_true rfl, Nat.le_of_ble_eq_true rfl⟩ (Nat.le_of_ble_eq_true rfl) dX5_lasts_4 (fun r_2 h_1 hw => ?_)
  refine gw_istore_n (ls' := [some (.ref (ad 0)), some (.int p1), some (.int r_2), none, none, none, none]) dX5_lasts_7 rfl (Nat.le_of_ble_eq_true rfl) rfl ?_
  refine gw_iload_n dX5_lasts_8 rfl rfl ?_
  refine gw_if_eq (tgt := 18) dX5_lasts_9 (by decide) (fun c_3 => ?_) (fun c_3 => ?_)
  · have hw := hw.1 c_3
    refine gw_aload_n dX5_lasts_18 rfl rfl ?_
    refine gw_iload_n dX5_lasts_19 rfl rfl ?_
    refine gw_callVv (As := [.int p1]) (rest := []) rfl (gc_X5_imagine  hw) mX5_imagine lmX5_175 oX5 clX5 rfl rfl ⟨Nat.le_of_ble_eq_true rfl, Nat.le_of_ble_eq_true rfl⟩ (Nat.le_of_ble_eq_true rfl) dX5_lasts_20 (fun h_4 hw => ?_)
    refine gw_iconst dX5_lasts_23 ic_0 ?_
    refine gw_istore_n (ls' := [some (.ref (ad 0)), some (.int p1), some (.int r_2), some (.int (0 : Int32)), none, none, none]) dX5_lasts_24 rfl (Nat.le_of_ble_eq_true rfl) rfl ?_
    refine gw_bipush dX5_lasts_25 bp_m9 ?_
    refine gw_istore (ls' := [some (.ref (ad 0)), some (.int p1), some (.int r_2), some (.int (0 : Int32)), some (.int (-9 : Int32)), none, none]) dX5_lasts_27 (Nat.le_of_ble_eq_true rfl) rfl ?_
    refine gw_iconst dX5_lasts_29 ic_0 ?_
    refine gw_istore (ls' := [some (.ref (ad 0)), some (.int p1), some (.int r_2), some (.int (0 : Int32)), some (.int (-9 : Int32)), some (.int (0 : Int32)), none]) dX5_lasts_30 (Nat.le_of_ble_eq_true rfl) rfl ?_
    refine gw_forget (ls' := [some (.ref (ad 0)), some (.int p1), none, some (.int (0 : Int32)), some (.int (-9 : Int32)), some (.int (0 : Int32)), none]) (gw_sub.s (gw_sub.s (gw_sub.n (gw_sub.s (gw_sub.s (gw_sub.s (gw_sub.n gw_sub.z))))))) ?_
    obtain ⟨n_9, hw⟩ := hw
    exact tl_X5_lasts_32   n_9 (0 : Int32) (-9 : Int32) (0 : Int32) h_4 hw
  · have hw := hw.2 c_3
    refine gw_aload_n dX5_lasts_12 rfl rfl ?_
    refine gw_iload_n dX5_lasts_13 rfl rfl ?_
    refine gw_callVi (As := [.int r_2]) (rest := []) rfl (gc_X5_refuse  hw) mX5_refuse lmX5_48 oX5 clX5 rfl rfl ⟨Nat.le_of_ble_eq_true rfl, Nat.le_of_ble_eq_true rfl⟩ (Nat.le_of_ble_eq_true rfl) dX5_lasts_14 (fun r_11 h_10 hw => ?_)
    exact gw_ireturn (ty := .int) hw rfl rfl dX5_lasts_17
def wp_X5_leadsToTold (h : gw_H) (p1 : Int32) (p2 : Int32) (p3 : Int32) (Q : Int32 → gw_H → Prop) : Prop :=
  (wp_X2_takeAs h 24 1 (fun _ h_1 => (wp_X2_give h_1 24 p1 p2 (fun _ h_2 => (wp_X2_passHours h_2 24 p3 (fun _ h_3 => (wp_X5_unlikeTold h_3 24 (h_3 0 6) (fun r_5 h_4 => ((¬ r_5 = (-9 : Int32) → Q (0 : Int32) h_4) ∧ (r_5 = (-9 : Int32) → Q (1 : Int32) h_4))))))))))
set_option maxRecDepth 100000 in
set_option maxHeartbeats 4000000 in
theorem gc_X5_leadsToTold {l : Launch} {ad : Nat → Nat} {h : gw_H} {p1 : Int32} {p2 : Int32} {p3 : Int32} {Q : Int32 → gw_H → Prop}  (hw : wp_X5_leadsToTold h p1 p2 p3 Q) : gw_C l yX5_leadsToTold cX5_leadsToTold 4 (some .boolean) 5 124 vC ad [.ref (ad 0), .int p1, .int p2, .int p3] h Q := by
  refine gw_entry (own := RX5) [some (.ref (ad 0)), some (.int p1), some (.int p2), some (.int p3)] pl_X5 rfl rfl (Nat.le_of_ble_eq_true rfl) rfl (fun X => ?_)
  unfold wp_X5_leadsToTold at hw
  refine gw_aload_n dX5_leadsToTold_0 rfl rfl ?_
  refine gw_getf (k := 1) (v := .ref (ad 24)) oX5 clX5 inUX5 (Nat.le_of_ble_eq_true rfl) rfl lfX5_16 rfl dX5_leadsToTold_1 ?_
  refine gw_aload_n dX5_leadsToTold_4 rfl rfl ?_
  refine gw_getf (k := 0) (v := .ref (ad 1)) oX5 clX5 inUX5 (Nat.le_of_ble_eq_true rfl) rfl lfX5_10 rfl dX5_leadsToTold_5 ?_
  refine gw_callVv (As := [.ref (ad 1)]) (rest := []) rfl (gc_X2_takeAs hb24 hb1 hw) mX2_takeAs lmX5_181 (oX2 hb24) clX2 rfl rfl ⟨Nat.le_of_ble_eq_true rfl, Nat.le_of_ble_eq_true rfl⟩ (Nat.le_of_ble_eq_true rfl) dX5_leadsToTold_8 (fun h_1 hw => ?_)
  refine gw_aload_n dX5_leadsToTold_11 rfl rfl ?_
  refine gw_getf (k := 1) (v := .ref (ad 24)) oX5 clX5 inUX5 (Nat.le_of_ble_eq_true rfl) rfl lfX5_16 rfl dX5_leadsToTold_12 ?_
  refine gw_iload_n dX5_leadsToTold_15 rfl rfl ?_
  refine gw_iload_n dX5_leadsToTold_16 rfl rfl ?_
  refine gw_callVv (As := [.int p1, .int p2]) (rest := []) rfl (gc_X2_give hb24 hw) mX2_give lmX5_155 (oX2 hb24) clX2 rfl rfl ⟨Nat.le_of_ble_eq_true rfl, Nat.le_of_ble_eq_true rfl⟩ (Nat.le_of_ble_eq_true rfl) dX5_leadsToTold_17 (fun h_2 hw => ?_)
  refine gw_aload_n dX5_leadsToTold_20 rfl rfl ?_
  refine gw_getf (k := 1) (v := .ref (ad 24)) oX5 clX5 inUX5 (Nat.le_of_ble_eq_true rfl) rfl lfX5_16 rfl dX5_leadsToTold_21 ?_
  refine gw_iload_n dX5_leadsToTold_24 rfl rfl ?_
  refine gw_callVv (As := [.int p3]) (rest := []) rfl (gc_X2_passHours hb24 hw) mX2_passHours lmX5_199 (oX2 hb24) clX2 rfl rfl ⟨Nat.le_of_ble_eq_true rfl, Nat.le_of_ble_eq_true rfl⟩ (Nat.le_of_ble_eq_true rfl) dX5_leadsToTold_25 (fun h_3 hw => ?_)
  refine gw_aload_n dX5_leadsToTold_28 rfl rfl ?_
  refine gw_aload_n dX5_leadsToTold_29 rfl rfl ?_
  refine gw_getf (k := 1) (v := .ref (ad 24)) oX5 clX5 inUX5 (Nat.le_of_ble_eq_true rfl) rfl lfX5_16 rfl dX5_leadsToTold_30 ?_
  refine gw_getfN (k := 2) (v := .ref (ad 33)) (oX2 hb24) clX2 inUX2 (Nat.le_of_ble_eq_true rfl) rfl lfX5_96 rfl dX5_leadsToTold_33 ?_
  refine gw_aload_n dX5_leadsToTold_36 rfl rfl ?_
  refine gw_getf (k := 6) (v := .int (h_3 0 6)) oX5 clX5 inUX5 (Nat.le_of_ble_eq_true rfl) rfl lfX5_37 rfl dX5_leadsToTold_37 ?_
  refine gw_callVi (As := [.ref (ad 33), .int (h_3 0 6)]) (rest := []) rfl (gc_X5_unlikeTold hb24 hw) mX5_unlikeTold lmX5_225 oX5 clX5 rfl rfl ⟨Nat.le_of_ble_eq_true rfl, Nat.le_of_ble_eq_true rfl⟩ (Nat.le_of_ble_eq_true rfl) dX5_leadsToTold_40 (fun r_5 h_4 hw => ?_)
  refine gw_bipush dX5_leadsToTold_43 bp_m9 ?_
  refine gw_icmp_ne (tgt := 52) dX5_leadsToTold_45 (by decide) (fun c_6 => ?_) (fun c_6 => ?_)
  · have hw := hw.1 c_6
    refine gw_iconst dX5_leadsToTold_52 ic_0 ?_
    exact gw_ireturn (ty := .boolean) hw rfl rfl dX5_leadsToTold_53
  · have hw := hw.2 c_6
    refine gw_iconst dX5_leadsToTold_48 ic_1 ?_
    refine gw_goto (tgt := 53) dX5_leadsToTold_49 (by decide) ?_
    exact gw_ireturn (ty := .boolean) hw rfl rfl dX5_leadsToTold_53
def wp_X5_lengthAndHours (h : gw_H) (p1 : Int32) (p2 : Int32) (Q : Int32 → gw_H → Prop) : Prop :=
  ((p1 < (1 : Int32) → Q (-4 : Int32) h) ∧ (¬ p1 < (1 : Int32) → ((0 ≤ p2 → (((9 : Int32) < p1 → Q (-6 : Int32) h) ∧ (¬ (9 : Int32) < p1 → ((p2 ≤ (60 : Int32) → Q (0 : Int32) h) ∧ (¬ p2 ≤ (60 : Int32) → Q (-6 : Int32) h))))) ∧ (¬ 0 ≤ p2 → Q (-4 : Int32) h))))
set_option maxRecDepth 100000 in
set_option maxHeartbeats 4000000 in
theorem gc_X5_lengthAndHours {l : Launch} {ad : Nat → Nat} {h : gw_H} {p1 : Int32} {p2 : Int32} {Q : Int32 → gw_H → Prop}  (hw : wp_X5_lengthAndHours h p1 p2 Q) : gw_C l yX5_lengthAndHours cX5_lengthAndHours 2 (some .int) 0 0 vC ad [.int p1, .int p2] h Q := by
  refine gw_entry (own := RX5) [some (.int p1), some (.int p2)] pl_X5 rfl rfl (Nat.le_of_ble_eq_true rfl) rfl (fun X => ?_)
  unfold wp_X5_lengthAndHours at hw
  refine gw_iload_n dX5_lengthAndHours_0 rfl rfl ?_
  refine gw_iconst dX5_lengthAndHours_1 ic_1 ?_
  refine gw_icmp_lt (tgt := 9) dX5_lengthAndHours_2 (by decide) (fun c_1 => ?_) (fun c_1 => ?_)
  · have hw := hw.1 c_1
    refine gw_bipush dX5_lengthAndHours_9 bp_m4 ?_
    exact gw_ireturn (ty := .int) hw rfl rfl dX5_lengthAndHours_11
  · have hw := hw.2 c_1
    refine gw_iload_n dX5_lengthAndHours_5 rfl rfl ?_
    refine gw_if_ge (tgt := 12) dX5_lengthAndHours_6 (by decide) (fun c_2 => ?_) (fun c_2 => ?_)
    · have hw := hw.1 c_2
      refine gw_iload_n dX5_lengthAndHours_12 rfl rfl ?_
      refine gw_bipush dX5_lengthAndHours_13 bp_9 ?_
      refine gw_icmp_gt (tgt := 24) dX5_lengthAndHours_15 (by decide) (fun c_3 => ?_) (fun c_3 => ?_)
      · have hw := hw.1 c_3
        refine gw_bipush dX5_lengthAndHours_24 bp_m6 ?_
        refine gw_goto (tgt := 30) dX5_lengthAndHours_26 (by decide) ?_
        exact gw_ireturn (ty := .int) hw rfl rfl dX5_lengthAndHours_30
      · have hw := hw.2 c_3
        refine gw_iload_n dX5_lengthAndHours_18 rfl rfl ?_
        refine gw_bipush dX5_lengthAndHours_19 bp_60 ?_
        refine gw_icmp_le (tgt := 29) dX5_lengthAndHours_21 (by decide) (fun c_4 => ?_) (fun c_4 => ?_)
        · have hw := hw.1 c_4
          refine gw_iconst dX5_lengthAndHours_29 ic_0 ?_
          exact gw_ireturn (ty := .int) hw rfl rfl dX5_lengthAndHours_30
        · have hw := hw.2 c_4
          refine gw_bipush dX5_lengthAndHours_24 bp_m6 ?_
          refine gw_goto (tgt := 30) dX5_lengthAndHours_26 (by decide) ?_
          exact gw_ireturn (ty := .int) hw rfl rfl dX5_lengthAndHours_30
    · have hw := hw.2 c_2
      refine gw_bipush dX5_lengthAndHours_9 bp_m4 ?_
      exact gw_ireturn (ty := .int) hw rfl rfl dX5_lengthAndHours_11
def wp_X5_letter (h : gw_H) (p1 : Int32) (Q : Int32 → gw_H → Prop) : Prop :=
  (wp_X5_outside h p1 (0 : Int32) (255 : Int32) (fun r_2 h_1 => ((r_2 = 0 → (wp_X4_isFull h_1  (fun r_5 h_4 => ((r_5 = 0 → (wp_X4_add h_4 p1 (fun _ h_7 => Q (h_7 70 1) h_7))) ∧ (¬ r_5 = 0 → (wp_X5_refuse h_4 (-6 : Int32) (fun r_9 h_8 => Q r_9 h_8))))))) ∧ (¬ r_2 = 0 → (wp_X5_refuse h_1 r_2 (fun r_11 h_10 => Q r_11 h_10))))))
set_option maxRecDepth 100000 in
set_option maxHeartbeats 4000000 in
theorem gc_X5_letter {l : Launch} {ad : Nat → Nat} {h : gw_H} {p1 : Int32} {Q : Int32 → gw_H → Prop}  (hw : wp_X5_letter h p1 Q) : gw_C l yX5_letter cX5_letter 3 (some .int) 2 43 vC ad [.ref (ad 0), .int p1] h Q := by
  refine gw_entry (own := RX5) [some (.ref (ad 0)), some (.int p1), none] pl_X5 rfl rfl (Nat.le_of_ble_eq_true rfl) rfl (fun X => ?_)
  unfold wp_X5_letter at hw
  refine gw_iload_n dX5_letter_0 rfl rfl ?_
  refine gw_iconst dX5_letter_1 ic_0 ?_
  refine gw_sipush dX5_letter_2 sp_255 ?_
  refine gw_callSi (As := [.int p1, .int (0 : Int32), .int (255 : Int32)]) (rest := []) rfl (gc_X5_outside  hw) mX5_outside lmX5_44 rfl rfl ⟨Nat.le_of_ble_eq_true rfl, Nat.le_of_ble_eq_true rfl⟩ (Nat.le_of_ble_eq_true rfl) dX5_letter_5 (fun r_2 h_1 hw => ?_)
  refine gw_istore_n (ls' := [some (.ref (ad 0)), some (.int p1), some (.int r_2)]) dX5_letter_8 rfl (Nat.le_of_ble_eq_true rfl) rfl ?_
  refine gw_iload_n dX5_letter_9 rfl rfl ?_
  refine gw_if_eq (tgt := 19) dX5_letter_10 (by decide) (fun c_3 => ?_) (fun c_3 => ?_)
  · have hw := hw.1 c_3
    refine gw_aload_n dX5_letter_19 rfl rfl ?_
    refine gw_getf (k := 4) (v := .ref (ad 70)) oX5 clX5 inUX5 (Nat.le_of_ble_eq_true rfl) rfl lfX5_29 rfl dX5_letter_20 ?_
    refine gw_callVi (As := []) (rest := []) rfl (gc_X4_isFull  hw) mX4_isFull lmX5_52 oX4 clX4 rfl rfl ⟨Nat.le_of_ble_eq_true rfl, Nat.le_of_ble_eq_true rfl⟩ (Nat.le_of_ble_eq_true rfl) dX5_letter_23 (fun r_5 h_4 hw => ?_)
    refine gw_if_eq (tgt := 36) dX5_letter_26 (by decide) (fun c_6 => ?_) (fun c_6 => ?_)
    · have hw := hw.1 c_6
      refine gw_aload_n dX5_letter_36 rfl rfl ?_
      refine gw_getf (k := 4) (v := .ref (ad 70)) oX5 clX5 inUX5 (Nat.le_of_ble_eq_true rfl) rfl lfX5_29 rfl dX5_letter_37 ?_
      refine gw_iload_n dX5_letter_40 rfl rfl ?_
      refine gw_callVv (As := [.int p1]) (rest := []) rfl (gc_X4_add  hw) mX4_add lmX5_56 oX4 clX4 rfl rfl ⟨Nat.le_of_ble_eq_true rfl, Nat.le_of_ble_eq_true rfl⟩ (Nat.le_of_ble_eq_true rfl) dX5_letter_41 (fun h_7 hw => ?_)
      refine gw_aload_n dX5_letter_44 rfl rfl ?_
      refine gw_getf (k := 4) (v := .ref (ad 70)) oX5 clX5 inUX5 (Nat.le_of_ble_eq_true rfl) rfl lfX5_29 rfl dX5_letter_45 ?_
      refine gw_getfN (k := 1) (v := .int (h_7 70 1)) oX4 clX4 inUX4 (Nat.le_of_ble_eq_true rfl) rfl lfX5_60 rfl dX5_letter_48 ?_
      exact gw_ireturn (ty := .int) hw rfl rfl dX5_letter_51
    · have hw := hw.2 c_6
      refine gw_aload_n dX5_letter_29 rfl rfl ?_
      refine gw_bipush dX5_letter_30 bp_m6 ?_
      refine gw_callVi (As := [.int (-6 : Int32)]) (rest := []) rfl (gc_X5_refuse  hw) mX5_refuse lmX5_48 oX5 clX5 rfl rfl ⟨Nat.le_of_ble_eq_true rfl, Nat.le_of_ble_eq_true rfl⟩ (Nat.le_of_ble_eq_true rfl) dX5_letter_32 (fun r_9 h_8 hw => ?_)
      exact gw_ireturn (ty := .int) hw rfl rfl dX5_letter_35
  · have hw := hw.2 c_3
    refine gw_aload_n dX5_letter_13 rfl rfl ?_
    refine gw_iload_n dX5_letter_14 rfl rfl ?_
    refine gw_callVi (As := [.int r_2]) (rest := []) rfl (gc_X5_refuse  hw) mX5_refuse lmX5_48 oX5 clX5 rfl rfl ⟨Nat.le_of_ble_eq_true rfl, Nat.le_of_ble_eq_true rfl⟩ (Nat.le_of_ble_eq_true rfl) dX5_letter_15 (fun r_11 h_10 hw => ?_)
    exact gw_ireturn (ty := .int) hw rfl rfl dX5_letter_18
def wp_X5_loud (h : gw_H) (p1 : Int32) (Q : Int32 → gw_H → Prop) : Prop :=
  (wp_X5_outside h p1 (1 : Int32) (20 : Int32) (fun r_2 h_1 => ((r_2 = 0 → Q (h_1 1 4) (gw_up h_1 1 4 p1)) ∧ (¬ r_2 = 0 → (wp_X5_refuse h_1 r_2 (fun r_5 h_4 => Q r_5 h_4))))))
set_option maxRecDepth 100000 in
set_option maxHeartbeats 4000000 in
theorem gc_X5_loud {l : Launch} {ad : Nat → Nat} {h : gw_H} {p1 : Int32} {Q : Int32 → gw_H → Prop}  (hw : wp_X5_loud h p1 Q) : gw_C l yX5_loud cX5_loud 4 (some .int) 2 43 vC ad [.ref (ad 0), .int p1] h Q := by
  refine gw_entry (own := RX5) [some (.ref (ad 0)), some (.int p1), none, none] pl_X5 rfl rfl (Nat.le_of_ble_eq_true rfl) rfl (fun X => ?_)
  unfold wp_X5_loud at hw
  refine gw_iload_n dX5_loud_0 rfl rfl ?_
  refine gw_iconst dX5_loud_1 ic_1 ?_
  refine gw_bipush dX5_loud_2 bp_20 ?_
  refine gw_callSi (As := [.int p1, .int (1 : Int32), .int (20 : Int32)]) (rest := []) rfl (gc_X5_outside  hw) mX5_outside lmX5_44 rfl rfl ⟨Nat.le_of_ble_eq_true rfl, Nat.le_of_ble_eq_true rfl⟩ (Nat.le_of_ble_eq_true rfl) dX5_loud_4 (fun r_2 h_1 hw => ?_)
  refine gw_istore_n (ls' := [some (.ref (ad 0)), some (.int p1), some (.int r_2), none]) dX5_loud_7 rfl (Nat.le_of_ble_eq_true rfl) rfl ?_
  refine gw_iload_n dX5_loud_8 rfl rfl ?_
  refine gw_if_eq (tgt := 18) dX5_loud_9 (by decide) (fun c_3 => ?_) (fun c_3 => ?_)
  · have hw := hw.1 c_3
    refine gw_aload_n dX5_loud_18 rfl rfl ?_
    refine gw_getf (k := 0) (v := .ref (ad 1)) oX5 clX5 inUX5 (Nat.le_of_ble_eq_true rfl) rfl lfX5_10 rfl dX5_loud_19 ?_
    refine gw_getfN (k := 4) (v := .int (h_1 1 4)) (oX2 hb1) clX2 inUX2 (Nat.le_of_ble_eq_true rfl) rfl lfX5_125 rfl dX5_loud_22 ?_
    refine gw_istore_n (ls' := [some (.ref (ad 0)), some (.int p1), some (.int r_2), some (.int (h_1 1 4))]) dX5_loud_25 rfl (Nat.le_of_ble_eq_true rfl) rfl ?_
    refine gw_aload_n dX5_loud_26 rfl rfl ?_
    refine gw_getf (k := 0) (v := .ref (ad 1)) oX5 clX5 inUX5 (Nat.le_of_ble_eq_true rfl) rfl lfX5_10 rfl dX5_loud_27 ?_
    refine gw_iload_n dX5_loud_30 rfl rfl ?_
    refine gw_putfN (k := 4) (ty := .int) (oX2 hb1) clX2 inUX2 tyX2_ok nmX2 (Nat.le_of_ble_eq_true rfl) rfl lfX5_125 (by decide +kernel) rfl rfl st_X2_4 dX5_loud_31 ?_
    refine gw_iload_n dX5_loud_34 rfl rfl ?_
    exact gw_ireturn (ty := .int) hw rfl rfl dX5_loud_35
  · have hw := hw.2 c_3
    refine gw_aload_n dX5_loud_12 rfl rfl ?_
    refine gw_iload_n dX5_loud_13 rfl rfl ?_
    refine gw_callVi (As := [.int r_2]) (rest := []) rfl (gc_X5_refuse  hw) mX5_refuse lmX5_48 oX5 clX5 rfl rfl ⟨Nat.le_of_ble_eq_true rfl, Nat.le_of_ble_eq_true rfl⟩ (Nat.le_of_ble_eq_true rfl) dX5_loud_14 (fun r_5 h_4 hw => ?_)
    exact gw_ireturn (ty := .int) hw rfl rfl dX5_loud_17
def wk_X5_most_108 (p1 : Int32) (p2 : Int32) (p3 : Int32) (K66 : Int32 → Int32 → Int32 → gw_H → Prop) (Q : Int32 → gw_H → Prop) : Int32 → Int32 → Int32 → gw_H → Prop :=
  fun x5 x6 x7 h => (K66 x5 x6 (x7 + (1 : Int32)) h)
set_option maxRecDepth 100000 in
set_option maxHeartbeats 4000000 in
theorem tk_X5_most_108 {l : Launch} {ad : Nat → Nat} {X : gw_X} {p1 : Int32} {p2 : Int32} {p3 : Int32} {K66 : Int32 → Int32 → Int32 → gw_H → Prop} {Q : Int32 → gw_H → Prop}  (hK66 : ∀ (y5 : Int32) (y6 : Int32) (y7 : Int32) (h : gw_H), K66 y5 y6 y7 h → gw_G l vC ad cX5_most RX5 9 (some .int) 4 124 Q X h 66 [some (.ref (ad 0)), some (.int p1), some (.int p2), some (.int p3), none, some (.int y5), some (.int y6), some (.int y7), none] []) (x5 : Int32) (x6 : Int32) (x7 : Int32) (h : gw_H) (hw : wk_X5_most_108 p1 p2 p3 K66 Q x5 x6 x7 h) : gw_G l vC ad cX5_most RX5 9 (some .int) 4 124 Q X h 108 [some (.ref (ad 0)), some (.int p1), some (.int p2), some (.int p3), none, some (.int x5), some (.int x6), some (.int x7), none] [] := by
  unfold wk_X5_most_108 at hw
  refine gw_iinc (ls' := [some (.ref (ad 0)), some (.int p1), some (.int p2), some (.int p3), none, some (.int x5), some (.int x6), some (.int (x7 + (1 : Int32))), none]) dX5_most_108 rfl (congrArg (fun z => x7 + z) ic_1) (Nat.le_of_ble_eq_true rfl) rfl ?_
  refine gw_goto (tgt := 66) dX5_most_111 (by decide) ?_
  exact hK66 x5 x6 (x7 + (1 : Int32)) h hw
def wl_X5_most_66 (p1 : Int32) (p2 : Int32) (p3 : Int32)  (Q : Int32 → gw_H → Prop) : Nat → Int32 → Int32 → Int32 → gw_H → Prop
  | 0 => fun _ _ _ _ => False
  | n + 1 => fun x5 x6 x7 h => ((p2 < x7 → ((¬ p3 = 0 → Q x5 h) ∧ (p3 = 0 → Q x6 h))) ∧ (¬ p2 < x7 → (wp_X2_passHour h 24 (fun r_11 h_10 => (wp_X1_holders h_10 24 p1 (fun r_13 h_12 => ((r_13 ≤ x5 → (wk_X5_most_108 p1 p2 p3 (wl_X5_most_66 p1 p2 p3  Q n) Q x5 x6 x7 h_12)) ∧ (¬ r_13 ≤ x5 → (wk_X5_most_108 p1 p2 p3 (wl_X5_most_66 p1 p2 p3  Q n) Q r_13 x7 x7 h_12)))))))))
set_option maxRecDepth 100000 in
set_option maxHeartbeats 4000000 in
theorem tl_X5_most_66 {l : Launch} {ad : Nat → Nat} {X : gw_X} {p1 : Int32} {p2 : Int32} {p3 : Int32}  {Q : Int32 → gw_H → Prop}   : ∀ (n : Nat) (x5 : Int32) (x6 : Int32) (x7 : Int32) (h : gw_H), wl_X5_most_66 p1 p2 p3  Q n x5 x6 x7 h → gw_G l vC ad cX5_most RX5 9 (some .int) 4 124 Q X h 66 [some (.ref (ad 0)), some (.int p1), some (.int p2), some (.int p3), none, some (.int x5), some (.int x6), some (.int x7), none] [] := by
  intro n
  induction n with
  | zero => intro x5 x6 x7 h hw; exact hw.elim
  | succ n ih =>
    intro x5 x6 x7 h hw
    unfold wl_X5_most_66 at hw
    refine gw_iload dX5_most_66 rfl ?_
    refine gw_iload_n dX5_most_68 rfl rfl ?_
    refine gw_icmp_gt (tgt := 114) dX5_most_69 (by decide) (fun c_8 => ?_) (fun c_8 => ?_)
    · have hw := hw.1 c_8
      refine gw_iload_n dX5_most_114 rfl rfl ?_
      refine gw_if_ne (tgt := 123) dX5_most_115 (by decide) (fun c_9 => ?_) (fun c_9 => ?_)
      · have hw := hw.1 c_9
        refine gw_iload dX5_most_123 rfl ?_
        exact gw_ireturn (ty := .int) hw rfl rfl dX5_most_125
      · have hw := hw.2 c_9
        refine gw_iload dX5_most_118 rfl ?_
        refine gw_goto (tgt := 125) dX5_most_120 (by decide) ?_
        exact gw_ireturn (ty := .int) hw rfl rfl dX5_most_125
    · have hw := hw.2 c_8
      refine gw_aload_n dX5_most_72 rfl rfl ?_
      refine gw_getf (k := 1) (v := .ref (ad 24)) oX5 clX5 inUX5 (Nat.le_of_ble_eq_true rfl) rfl lfX5_16 rfl dX5_most_73 ?_
      refine gw_callVi (As := []) (rest := []) rfl (gc_X2_passHour hb24 hw) mX2_passHour lmX5_165 (oX2 hb24) clX2 rfl rfl ⟨Nat.le_of_ble_eq_true rfl, Nat.le_of_ble_eq_true rfl⟩ (Nat.le_of_ble_eq_true rfl) dX5_most_76 (fun r_11 h_10 hw => ?_)
      refine gw_pop dX5_most_79 rfl ?_
      refine gw_aload_n dX5_most_80 rfl rfl ?_
      refine gw_getf (k := 1) (v := .ref (ad 24)) oX5 clX5 inUX5 (Nat.le_of_ble_eq_true rfl) rfl lfX5_16 rfl dX5_most_81 ?_
      refine gw_getfN (k := 2) (v := .ref (ad 33)) (oX2 hb24) clX2 inUX2 (Nat.le_of_ble_eq_true rfl) rfl lfX5_96 rfl dX5_most_84 ?_
      refine gw_iload_n dX5_most_87 rfl rfl ?_
      refine gw_callVi (As := [.int p1]) (rest := []) rfl (gc_X1_holders hb24 hw) mX1_holders lmX5_100 (oX1 hb24) clX1 rfl rfl ⟨Nat.le_of_ble_eq_true rfl, Nat.le_of_ble_eq_true rfl⟩ (Nat.le_of_ble_eq_true rfl) dX5_most_88 (fun r_13 h_12 hw => ?_)
      refine gw_istore (ls' := [some (.ref (ad 0)), some (.int p1), some (.int p2), some (.int p3), none, some (.int x5), some (.int x6), some (.int x7), some (.int r_13)]) dX5_most_91 (Nat.le_of_ble_eq_true rfl) rfl ?_
      refine gw_iload dX5_most_93 rfl ?_
      refine gw_iload dX5_most_95 rfl ?_
      refine gw_icmp_le (tgt := 108) dX5_most_97 (by decide) (fun c_14 => ?_) (fun c_14 => ?_)
      · have hw := hw.1 c_14
        refine gw_forget (ls' := [some (.ref (ad 0)), some (.int p1), some (.int p2), some (.int p3), none, some (.int x5), some (.int x6), some (.int x7), none]) (gw_sub.s (gw_sub.s (gw_sub.s (gw_sub.s (gw_sub.n (gw_sub.s (gw_sub.s (gw_sub.s (gw_sub.n gw_sub.z))))))))) ?_
        exact tk_X5_most_108   ih x5 x6 x7 h_12 hw
      · have hw := hw.2 c_14
        refine gw_iload dX5_most_100 rfl ?_
        refine gw_istore (ls' := [some (.ref (ad 0)), some (.int p1), some (.int p2), some (.int p3), none, some (.int r_13), some (.int x6), some (.int x7), some (.int r_13)]) dX5_most_102 (Nat.le_of_ble_eq_true rfl) rfl ?_
        refine gw_iload dX5_most_104 rfl ?_
        refine gw_istore (ls' := [some (.ref (ad 0)), some (.int p1), some (.int p2), some (.int p3), none, some (.int r_13), some (.int x7), some (.int x7), some (.int r_13)]) dX5_most_106 (Nat.le_of_ble_eq_true rfl) rfl ?_
        refine gw_forget (ls' := [some (.ref (ad 0)), some (.int p1), some (.int p2), some (.int p3), none, some (.int r_13), some (.int x7), some (.int x7), none]) (gw_sub.s (gw_sub.s (gw_sub.s (gw_sub.s (gw_sub.n (gw_sub.s (gw_sub.s (gw_sub.s (gw_sub.n gw_sub.z))))))))) ?_
        exact tk_X5_most_108   ih r_13 x7 x7 h_12 hw
def wk_X5_most_24 (p1 : Int32) (p2 : Int32) (p3 : Int32)  (Q : Int32 → gw_H → Prop) : Int32 → gw_H → Prop :=
  fun x4 h => ((x4 = 0 → (wp_X2_takeAs h 24 1 (fun _ h_5 => (wp_X1_holders h_5 24 p1 (fun r_7 h_6 => (∃ n_15 : Nat, wl_X5_most_66 p1 p2 p3  Q n_15 r_7 (0 : Int32) (1 : Int32) h_6)))))) ∧ (¬ x4 = 0 → (wp_X5_refuse h x4 (fun r_17 h_16 => Q r_17 h_16))))
set_option maxRecDepth 100000 in
set_option maxHeartbeats 4000000 in
theorem tk_X5_most_24 {l : Launch} {ad : Nat → Nat} {X : gw_X} {p1 : Int32} {p2 : Int32} {p3 : Int32}  {Q : Int32 → gw_H → Prop}   (x4 : Int32) (h : gw_H) (hw : wk_X5_most_24 p1 p2 p3  Q x4 h) : gw_G l vC ad cX5_most RX5 9 (some .int) 4 124 Q X h 24 [some (.ref (ad 0)), some (.int p1), some (.int p2), some (.int p3), some (.int x4), none, none, none, none] [] := by
  unfold wk_X5_most_24 at hw
  refine gw_iload dX5_most_24 rfl ?_
  refine gw_if_eq (tgt := 36) dX5_most_26 (by decide) (fun c_4 => ?_) (fun c_4 => ?_)
  · have hw := hw.1 c_4
    refine gw_aload_n dX5_most_36 rfl rfl ?_
    refine gw_getf (k := 1) (v := .ref (ad 24)) oX5 clX5 inUX5 (Nat.le_of_ble_eq_true rfl) rfl lfX5_16 rfl dX5_most_37 ?_
    refine gw_aload_n dX5_most_40 rfl rfl ?_
    refine gw_getf (k := 0) (v := .ref (ad 1)) oX5 clX5 inUX5 (Nat.le_of_ble_eq_true rfl) rfl lfX5_10 rfl dX5_most_41 ?_
    refine gw_callVv (As := [.ref (ad 1)]) (rest := []) rfl (gc_X2_takeAs hb24 hb1 hw) mX2_takeAs lmX5_181 (oX2 hb24) clX2 rfl rfl ⟨Nat.le_of_ble_eq_true rfl, Nat.le_of_ble_eq_true rfl⟩ (Nat.le_of_ble_eq_true rfl) dX5_most_44 (fun h_5 hw => ?_)
    refine gw_aload_n dX5_most_47 rfl rfl ?_
    refine gw_getf (k := 1) (v := .ref (ad 24)) oX5 clX5 inUX5 (Nat.le_of_ble_eq_true rfl) rfl lfX5_16 rfl dX5_most_48 ?_
    refine gw_getfN (k := 2) (v := .ref (ad 33)) (oX2 hb24) clX2 inUX2 (Nat.le_of_ble_eq_true rfl) rfl lfX5_96 rfl dX5_most_51 ?_
    refine gw_iload_n dX5_most_54 rfl rfl ?_
    refine gw_callVi (As := [.int p1]) (rest := []) rfl (gc_X1_holders hb24 hw) mX1_holders lmX5_100 (oX1 hb24) clX1 rfl rfl ⟨Nat.le_of_ble_eq_true rfl, Nat.le_of_ble_eq_true rfl⟩ (Nat.le_of_ble_eq_true rfl) dX5_most_55 (fun r_7 h_6 hw => ?_)
    refine gw_istore (ls' := [some (.ref (ad 0)), some (.int p1), some (.int p2), some (.int p3), some (.int x4), some (.int r_7), none, none, none]) dX5_most_58 (Nat.le_of_ble_eq_true rfl) rfl ?_
    refine gw_iconst dX5_most_60 ic_0 ?_
    refine gw_istore (ls' := [some (.ref (ad 0)), some (.int p1), some (.int p2), some (.int p3), some (.int x4), some (.int r_7), some (.int (0 : Int32)), none, none]) dX5_most_61 (Nat.le_of_ble_eq_true rfl) rfl ?_
    refine gw_iconst dX5_most_63 ic_1 ?_
    refine gw_istore (ls' := [some (.ref (ad 0)), some (.int p1), some (.int p2), some (.int p3), some (.int x4), some (.int r_7), some (.int (0 : Int32)), some (.int (1 : Int32)), none]) dX5_most_64 (Nat.le_of_ble_eq_true rfl) rfl ?_
    refine gw_forget (ls' := [some (.ref (ad 0)), some (.int p1), some (.int p2), some (.int p3), none, some (.int r_7), some (.int (0 : Int32)), some (.int (1 : Int32)), none]) (gw_sub.s (gw_sub.s (gw_sub.s (gw_sub.s (gw_sub.n (gw_sub.s (gw_sub.s (gw_sub.s (gw_sub.n gw_sub.z))))))))) ?_
    obtain ⟨n_15, hw⟩ := hw
    exact tl_X5_most_66   n_15 r_7 (0 : Int32) (1 : Int32) h_6 hw
  · have hw := hw.2 c_4
    refine gw_aload_n dX5_most_29 rfl rfl ?_
    refine gw_iload dX5_most_30 rfl ?_
    refine gw_callVi (As := [.int x4]) (rest := []) rfl (gc_X5_refuse  hw) mX5_refuse lmX5_48 oX5 clX5 rfl rfl ⟨Nat.le_of_ble_eq_true rfl, Nat.le_of_ble_eq_true rfl⟩ (Nat.le_of_ble_eq_true rfl) dX5_most_32 (fun r_17 h_16 hw => ?_)
    exact gw_ireturn (ty := .int) hw rfl rfl dX5_most_35
def wp_X5_most (h : gw_H) (p1 : Int32) (p2 : Int32) (p3 : Int32) (Q : Int32 → gw_H → Prop) : Prop :=
  (wp_X5_songAndHours h p1 p2 (fun r_2 h_1 => ((¬ r_2 = 0 → (wk_X5_most_24 p1 p2 p3  Q r_2 h_1)) ∧ (r_2 = 0 → (wp_X5_isNeither h_1 p3 (fun r_19 h_18 => ((r_19 = 0 → (wk_X5_most_24 p1 p2 p3  Q r_2 h_18)) ∧ (¬ r_19 = 0 → (wk_X5_most_24 p1 p2 p3  Q (-2 : Int32) h_18)))))))))
set_option maxRecDepth 100000 in
set_option maxHeartbeats 4000000 in
theorem gc_X5_most {l : Launch} {ad : Nat → Nat} {h : gw_H} {p1 : Int32} {p2 : Int32} {p3 : Int32} {Q : Int32 → gw_H → Prop}  (hw : wp_X5_most h p1 p2 p3 Q) : gw_C l yX5_most cX5_most 9 (some .int) 4 124 vC ad [.ref (ad 0), .int p1, .int p2, .int p3] h Q := by
  refine gw_entry (own := RX5) [some (.ref (ad 0)), some (.int p1), some (.int p2), some (.int p3), none, none, none, none, none] pl_X5 rfl rfl (Nat.le_of_ble_eq_true rfl) rfl (fun X => ?_)
  unfold wp_X5_most at hw
  refine gw_aload_n dX5_most_0 rfl rfl ?_
  refine gw_iload_n dX5_most_1 rfl rfl ?_
  refine gw_iload_n dX5_most_2 rfl rfl ?_
  refine gw_callVi (As := [.int p1, .int p2]) (rest := []) rfl (gc_X5_songAndHours  hw) mX5_songAndHours lmX5_178 oX5 clX5 rfl rfl ⟨Nat.le_of_ble_eq_true rfl, Nat.le_of_ble_eq_true rfl⟩ (Nat.le_of_ble_eq_true rfl) dX5_most_3 (fun r_2 h_1 hw => ?_)
  refine gw_istore (ls' := [some (.ref (ad 0)), some (.int p1), some (.int p2), some (.int p3), some (.int r_2), none, none, none, none]) dX5_most_6 (Nat.le_of_ble_eq_true rfl) rfl ?_
  refine gw_iload dX5_most_8 rfl ?_
  refine gw_if_ne (tgt := 24) dX5_most_10 (by decide) (fun c_3 => ?_) (fun c_3 => ?_)
  · have hw := hw.1 c_3
    exact tk_X5_most_24   r_2 h_1 hw
  · have hw := hw.2 c_3
    refine gw_iload_n dX5_most_13 rfl rfl ?_
    refine gw_callSi (As := [.int p3]) (rest := []) rfl (gc_X5_isNeither  hw) mX5_isNeither lmX5_172 rfl rfl ⟨Nat.le_of_ble_eq_true rfl, Nat.le_of_ble_eq_true rfl⟩ (Nat.le_of_ble_eq_true rfl) dX5_most_14 (fun r_19 h_18 hw => ?_)
    refine gw_if_eq (tgt := 24) dX5_most_17 (by decide) (fun c_20 => ?_) (fun c_20 => ?_)
    · have hw := hw.1 c_20
      exact tk_X5_most_24   r_2 h_18 hw
    · have hw := hw.2 c_20
      refine gw_bipush dX5_most_20 bp_m2 ?_
      refine gw_istore (ls' := [some (.ref (ad 0)), some (.int p1), some (.int p2), some (.int p3), some (.int (-2 : Int32)), none, none, none, none]) dX5_most_22 (Nat.le_of_ble_eq_true rfl) rfl ?_
      exact tk_X5_most_24   (-2 : Int32) h_18 hw
def wp_X5_near (h : gw_H) (p1 : Int32) (Q : Int32 → gw_H → Prop) : Prop :=
  (wp_X1_has h 1 p1 (fun r_2 h_1 => ((¬ r_2 = 0 → (wp_X2_nearBits h_1 1 p1 (fun r_5 h_4 => Q r_5 h_4))) ∧ (r_2 = 0 → (wp_X5_refuse h_1 (-1 : Int32) (fun r_7 h_6 => Q r_7 h_6))))))
set_option maxRecDepth 100000 in
set_option maxHeartbeats 4000000 in
theorem gc_X5_near {l : Launch} {ad : Nat → Nat} {h : gw_H} {p1 : Int32} {Q : Int32 → gw_H → Prop}  (hw : wp_X5_near h p1 Q) : gw_C l yX5_near cX5_near 2 (some .int) 3 68 vC ad [.ref (ad 0), .int p1] h Q := by
  refine gw_entry (own := RX5) [some (.ref (ad 0)), some (.int p1)] pl_X5 rfl rfl (Nat.le_of_ble_eq_true rfl) rfl (fun X => ?_)
  unfold wp_X5_near at hw
  refine gw_aload_n dX5_near_0 rfl rfl ?_
  refine gw_getf (k := 0) (v := .ref (ad 1)) oX5 clX5 inUX5 (Nat.le_of_ble_eq_true rfl) rfl lfX5_10 rfl dX5_near_1 ?_
  refine gw_getfN (k := 2) (v := .ref (ad 10)) (oX2 hb1) clX2 inUX2 (Nat.le_of_ble_eq_true rfl) rfl lfX5_96 rfl dX5_near_4 ?_
  refine gw_iload_n dX5_near_7 rfl rfl ?_
  refine gw_callVi (As := [.int p1]) (rest := []) rfl (gc_X1_has hb1 hw) mX1_has lmX5_105 (oX1 hb1) clX1 rfl rfl ⟨Nat.le_of_ble_eq_true rfl, Nat.le_of_ble_eq_true rfl⟩ (Nat.le_of_ble_eq_true rfl) dX5_near_8 (fun r_2 h_1 hw => ?_)
  refine gw_if_ne (tgt := 20) dX5_near_11 (by decide) (fun c_3 => ?_) (fun c_3 => ?_)
  · have hw := hw.1 c_3
    refine gw_aload_n dX5_near_20 rfl rfl ?_
    refine gw_getf (k := 0) (v := .ref (ad 1)) oX5 clX5 inUX5 (Nat.le_of_ble_eq_true rfl) rfl lfX5_10 rfl dX5_near_21 ?_
    refine gw_iload_n dX5_near_24 rfl rfl ?_
    refine gw_callVi (As := [.int p1]) (rest := []) rfl (gc_X2_nearBits hb1 hw) mX2_nearBits lmX5_135 (oX2 hb1) clX2 rfl rfl ⟨Nat.le_of_ble_eq_true rfl, Nat.le_of_ble_eq_true rfl⟩ (Nat.le_of_ble_eq_true rfl) dX5_near_25 (fun r_5 h_4 hw => ?_)
    exact gw_ireturn (ty := .int) hw rfl rfl dX5_near_28
  · have hw := hw.2 c_3
    refine gw_aload_n dX5_near_14 rfl rfl ?_
    refine gw_iconst dX5_near_15 ic_m1 ?_
    refine gw_callVi (As := [.int (-1 : Int32)]) (rest := []) rfl (gc_X5_refuse  hw) mX5_refuse lmX5_48 oX5 clX5 rfl rfl ⟨Nat.le_of_ble_eq_true rfl, Nat.le_of_ble_eq_true rfl⟩ (Nat.le_of_ble_eq_true rfl) dX5_near_16 (fun r_7 h_6 hw => ?_)
    exact gw_ireturn (ty := .int) hw rfl rfl dX5_near_19
def wp_X5_setLoudInMind (h : gw_H) (p1 : Int32) (Q : Int32 → gw_H → Prop) : Prop :=
  (wp_X5_outside h p1 (1 : Int32) (20 : Int32) (fun r_2 h_1 => ((r_2 = 0 → Q (1 : Int32) (gw_up h_1 24 4 p1)) ∧ (¬ r_2 = 0 → Q (0 : Int32) h_1))))
set_option maxRecDepth 100000 in
set_option maxHeartbeats 4000000 in
theorem gc_X5_setLoudInMind {l : Launch} {ad : Nat → Nat} {h : gw_H} {p1 : Int32} {Q : Int32 → gw_H → Prop}  (hw : wp_X5_setLoudInMind h p1 Q) : gw_C l yX5_setLoudInMind cX5_setLoudInMind 2 (some .boolean) 1 22 vC ad [.ref (ad 0), .int p1] h Q := by
  refine gw_entry (own := RX5) [some (.ref (ad 0)), some (.int p1)] pl_X5 rfl rfl (Nat.le_of_ble_eq_true rfl) rfl (fun X => ?_)
  unfold wp_X5_setLoudInMind at hw
  refine gw_iload_n dX5_setLoudInMind_0 rfl rfl ?_
  refine gw_iconst dX5_setLoudInMind_1 ic_1 ?_
  refine gw_bipush dX5_setLoudInMind_2 bp_20 ?_
  refine gw_callSi (As := [.int p1, .int (1 : Int32), .int (20 : Int32)]) (rest := []) rfl (gc_X5_outside  hw) mX5_outside lmX5_44 rfl rfl ⟨Nat.le_of_ble_eq_true rfl, Nat.le_of_ble_eq_true rfl⟩ (Nat.le_of_ble_eq_true rfl) dX5_setLoudInMind_4 (fun r_2 h_1 hw => ?_)
  refine gw_if_eq (tgt := 12) dX5_setLoudInMind_7 (by decide) (fun c_3 => ?_) (fun c_3 => ?_)
  · have hw := hw.1 c_3
    refine gw_aload_n dX5_setLoudInMind_12 rfl rfl ?_
    refine gw_getf (k := 1) (v := .ref (ad 24)) oX5 clX5 inUX5 (Nat.le_of_ble_eq_true rfl) rfl lfX5_16 rfl dX5_setLoudInMind_13 ?_
    refine gw_iload_n dX5_setLoudInMind_16 rfl rfl ?_
    refine gw_putfN (k := 4) (ty := .int) (oX2 hb24) clX2 inUX2 tyX2_ok nmX2 (Nat.le_of_ble_eq_true rfl) rfl lfX5_125 (by decide +kernel) rfl rfl st_X2_4 dX5_setLoudInMind_17 ?_
    refine gw_iconst dX5_setLoudInMind_20 ic_1 ?_
    exact gw_ireturn (ty := .boolean) hw rfl rfl dX5_setLoudInMind_21
  · have hw := hw.2 c_3
    refine gw_iconst dX5_setLoudInMind_10 ic_0 ?_
    exact gw_ireturn (ty := .boolean) hw rfl rfl dX5_setLoudInMind_11
def wp_X5_obey (h : gw_H) (p1 : Int32) (Q : Int32 → gw_H → Prop) : Prop :=
  (wp_X4_sign h p1 (fun r_2 h_1 => ((r_2 = (100 : Int32) → (wp_X4_digit h_1 (p1 + (1 : Int32)) (fun r_5 h_4 => (wp_X4_digit h_4 (p1 + (2 : Int32)) (fun r_7 h_6 => (wp_X0_add h_6 24 r_5 r_7 (fun r_9 h_8 => (narrow .boolean (.int r_9) = .int r_9 ∧ Q r_9 h_8)))))))) ∧ (¬ r_2 = (100 : Int32) → ((r_2 = (103 : Int32) → (wp_X4_digit h_1 (p1 + (1 : Int32)) (fun r_12 h_11 => (wp_X4_digit h_11 (p1 + (2 : Int32)) (fun r_14 h_13 => (wp_X5_giveInMind h_13 r_12 r_14 (fun r_16 h_15 => (narrow .boolean (.int r_16) = .int r_16 ∧ Q r_16 h_15)))))))) ∧ (¬ r_2 = (103 : Int32) → ((r_2 = (104 : Int32) → (wp_X4_kind h_1 p1 (fun r_19 h_18 => (wp_X4_digit h_18 (p1 + (2 : Int32)) (fun r_21 h_20 => (wp_X4_digit h_20 (p1 + (3 : Int32)) (fun r_23 h_22 => (wp_X1_add h_22 24 r_19 r_21 r_23 (fun r_25 h_24 => (narrow .boolean (.int r_25) = .int r_25 ∧ Q r_25 h_24)))))))))) ∧ (¬ r_2 = (104 : Int32) → ((r_2 = (115 : Int32) → (wp_X4_kind h_1 p1 (fun r_28 h_27 => (wp_X4_digit h_27 (p1 + (2 : Int32)) (fun r_30 h_29 => (wp_X4_digit h_29 (p1 + (3 : Int32)) (fun r_32 h_31 => (wp_X3_add h_31 24 r_28 r_30 r_32 (fun r_34 h_33 => (narrow .boolean (.int r_34) = .int r_34 ∧ Q r_34 h_33)))))))))) ∧ (¬ r_2 = (115 : Int32) → (wp_X4_value h_1 (p1 + (1 : Int32)) (fun r_36 h_35 => (wp_X5_setLoudInMind h_35 r_36 (fun r_38 h_37 => (narrow .boolean (.int r_38) = .int r_38 ∧ Q r_38 h_37)))))))))))))))
set_option maxRecDepth 100000 in
set_option maxHeartbeats 4000000 in
theorem gc_X5_obey {l : Launch} {ad : Nat → Nat} {h : gw_H} {p1 : Int32} {Q : Int32 → gw_H → Prop}  (hw : wp_X5_obey h p1 Q) : gw_C l yX5_obey cX5_obey 2 (some .boolean) 5 113 vC ad [.ref (ad 0), .int p1] h Q := by
  refine gw_entry (own := RX5) [some (.ref (ad 0)), some (.int p1)] pl_X5 rfl rfl (Nat.le_of_ble_eq_true rfl) rfl (fun X => ?_)
  unfold wp_X5_obey at hw
  refine gw_aload_n dX5_obey_0 rfl rfl ?_
  refine gw_getf (k := 4) (v := .ref (ad 70)) oX5 clX5 inUX5 (Nat.le_of_ble_eq_true rfl) rfl lfX5_29 rfl dX5_obey_1 ?_
  refine gw_iload_n dX5_obey_4 rfl rfl ?_
  refine gw_callVi (As := [.int p1]) (rest := []) rfl (gc_X4_sign  hw) mX4_sign lmX5_252 oX4 clX4 rfl rfl ⟨Nat.le_of_ble_eq_true rfl, Nat.le_of_ble_eq_true rfl⟩ (Nat.le_of_ble_eq_true rfl) dX5_obey_5 (fun r_2 h_1 hw => ?_)
  by_cases c_3 : r_2 = (100 : Int32)
  · have hw := hw.1 c_3
    refine gw_lsw (off := 44) (tgt := 52) dX5_obey_8 (by decide) (by rw [c_3]; decide) (by decide) ?_
    refine gw_aload_n dX5_obey_52 rfl rfl ?_
    refine gw_getf (k := 1) (v := .ref (ad 24)) oX5 clX5 inUX5 (Nat.le_of_ble_eq_true rfl) rfl lfX5_16 rfl dX5_obey_53 ?_
    refine gw_getfN (k := 0) (v := .ref (ad 25)) (oX2 hb24) clX2 inUX2 (Nat.le_of_ble_eq_true rfl) rfl lfX5_138 rfl dX5_obey_56 ?_
    refine gw_aload_n dX5_obey_59 rfl rfl ?_
    refine gw_getf (k := 4) (v := .ref (ad 70)) oX5 clX5 inUX5 (Nat.le_of_ble_eq_true rfl) rfl lfX5_29 rfl dX5_obey_60 ?_
    refine gw_iload_n dX5_obey_63 rfl rfl ?_
    refine gw_iconst dX5_obey_64 ic_1 ?_
    refine gw_iadd dX5_obey_65 ?_
    refine gw_callVi (As := [.int (p1 + (1 : Int32))]) (rest := [.ref (ad 25)]) rfl (gc_X4_digit  hw) mX4_digit lmX5_255 oX4 clX4 rfl rfl ⟨Nat.le_of_ble_eq_true rfl, Nat.le_of_ble_eq_true rfl⟩ (Nat.le_of_ble_eq_true rfl) dX5_obey_66 (fun r_5 h_4 hw => ?_)
    refine gw_aload_n dX5_obey_69 rfl rfl ?_
    refine gw_getf (k := 4) (v := .ref (ad 70)) oX5 clX5 inUX5 (Nat.le_of_ble_eq_true rfl) rfl lfX5_29 rfl dX5_obey_70 ?_
    refine gw_iload_n dX5_obey_73 rfl rfl ?_
    refine gw_iconst dX5_obey_74 ic_2 ?_
    refine gw_iadd dX5_obey_75 ?_
    refine gw_callVi (As := [.int (p1 + (2 : Int32))]) (rest := [.int r_5, .ref (ad 25)]) rfl (gc_X4_digit  hw) mX4_digit lmX5_255 oX4 clX4 rfl rfl ⟨Nat.le_of_ble_eq_true rfl, Nat.le_of_ble_eq_true rfl⟩ (Nat.le_of_ble_eq_true rfl) dX5_obey_76 (fun r_7 h_6 hw => ?_)
    refine gw_callVi (As := [.int r_5, .int r_7]) (rest := []) rfl (gc_X0_add hb24 hw) mX0_add lmX5_258 (oX0 hb24) clX0 rfl rfl ⟨Nat.le_of_ble_eq_true rfl, Nat.le_of_ble_eq_true rfl⟩ (Nat.le_of_ble_eq_true rfl) dX5_obey_79 (fun r_9 h_8 hw => ?_)
    exact gw_ireturn (ty := .boolean) hw.2 rfl hw.1 dX5_obey_82
  · have hw := hw.2 c_3
    by_cases c_10 : r_2 = (103 : Int32)
    · have hw := hw.1 c_10
      refine gw_lsw (off := 153) (tgt := 161) dX5_obey_8 (by decide) (by rw [c_10]; decide) (by decide) ?_
      refine gw_aload_n dX5_obey_161 rfl rfl ?_
      refine gw_aload_n dX5_obey_162 rfl rfl ?_
      refine gw_getf (k := 4) (v := .ref (ad 70)) oX5 clX5 inUX5 (Nat.le_of_ble_eq_true rfl) rfl lfX5_29 rfl dX5_obey_163 ?_
      refine gw_iload_n dX5_obey_166 rfl rfl ?_
      refine gw_iconst dX5_obey_167 ic_1 ?_
      refine gw_iadd dX5_obey_168 ?_
      refine gw_callVi (As := [.int (p1 + (1 : Int32))]) (rest := [.ref (ad 0)]) rfl (gc_X4_digit  hw) mX4_digit lmX5_255 oX4 clX4 rfl rfl ⟨Nat.le_of_ble_eq_true rfl, Nat.le_of_ble_eq_true rfl⟩ (Nat.le_of_ble_eq_true rfl) dX5_obey_169 (fun r_12 h_11 hw => ?_)
      refine gw_aload_n dX5_obey_172 rfl rfl ?_
      refine gw_getf (k := 4) (v := .ref (ad 70)) oX5 clX5 inUX5 (Nat.le_of_ble_eq_true rfl) rfl lfX5_29 rfl dX5_obey_173 ?_
      refine gw_iload_n dX5_obey_176 rfl rfl ?_
      refine gw_iconst dX5_obey_177 ic_2 ?_
      refine gw_iadd dX5_obey_178 ?_
      refine gw_callVi (As := [.int (p1 + (2 : Int32))]) (rest := [.int r_12, .ref (ad 0)]) rfl (gc_X4_digit  hw) mX4_digit lmX5_255 oX4 clX4 rfl rfl ⟨Nat.le_of_ble_eq_true rfl, Nat.le_of_ble_eq_true rfl⟩ (Nat.le_of_ble_eq_true rfl) dX5_obey_179 (fun r_14 h_13 hw => ?_)
      refine gw_callVi (As := [.int r_12, .int r_14]) (rest := []) rfl (gc_X5_giveInMind  hw) mX5_giveInMind lmX5_264 oX5 clX5 rfl rfl ⟨Nat.le_of_ble_eq_true rfl, Nat.le_of_ble_eq_true rfl⟩ (Nat.le_of_ble_eq_true rfl) dX5_obey_182 (fun r_16 h_15 hw => ?_)
      exact gw_ireturn (ty := .boolean) hw.2 rfl hw.1 dX5_obey_185
    · have hw := hw.2 c_10
      by_cases c_17 : r_2 = (104 : Int32)
      · have hw := hw.1 c_17
        refine gw_lsw (off := 114) (tgt := 122) dX5_obey_8 (by decide) (by rw [c_17]; decide) (by decide) ?_
        refine gw_aload_n dX5_obey_122 rfl rfl ?_
        refine gw_getf (k := 1) (v := .ref (ad 24)) oX5 clX5 inUX5 (Nat.le_of_ble_eq_true rfl) rfl lfX5_16 rfl dX5_obey_123 ?_
        refine gw_getfN (k := 2) (v := .ref (ad 33)) (oX2 hb24) clX2 inUX2 (Nat.le_of_ble_eq_true rfl) rfl lfX5_96 rfl dX5_obey_126 ?_
        refine gw_aload_n dX5_obey_129 rfl rfl ?_
        refine gw_getf (k := 4) (v := .ref (ad 70)) oX5 clX5 inUX5 (Nat.le_of_ble_eq_true rfl) rfl lfX5_29 rfl dX5_obey_130 ?_
        refine gw_iload_n dX5_obey_133 rfl rfl ?_
        refine gw_callVi (As := [.int p1]) (rest := [.ref (ad 33)]) rfl (gc_X4_kind  hw) mX4_kind lmX5_261 oX4 clX4 rfl rfl ⟨Nat.le_of_ble_eq_true rfl, Nat.le_of_ble_eq_true rfl⟩ (Nat.le_of_ble_eq_true rfl) dX5_obey_134 (fun r_19 h_18 hw => ?_)
        refine gw_aload_n dX5_obey_137 rfl rfl ?_
        refine gw_getf (k := 4) (v := .ref (ad 70)) oX5 clX5 inUX5 (Nat.le_of_ble_eq_true rfl) rfl lfX5_29 rfl dX5_obey_138 ?_
        refine gw_iload_n dX5_obey_141 rfl rfl ?_
        refine gw_iconst dX5_obey_142 ic_2 ?_
        refine gw_iadd dX5_obey_143 ?_
        refine gw_callVi (As := [.int (p1 + (2 : Int32))]) (rest := [.int r_19, .ref (ad 33)]) rfl (gc_X4_digit  hw) mX4_digit lmX5_255 oX4 clX4 rfl rfl ⟨Nat.le_of_ble_eq_true rfl, Nat.le_of_ble_eq_true rfl⟩ (Nat.le_of_ble_eq_true rfl) dX5_obey_144 (fun r_21 h_20 hw => ?_)
        refine gw_aload_n dX5_obey_147 rfl rfl ?_
        refine gw_getf (k := 4) (v := .ref (ad 70)) oX5 clX5 inUX5 (Nat.le_of_ble_eq_true rfl) rfl lfX5_29 rfl dX5_obey_148 ?_
        refine gw_iload_n dX5_obey_151 rfl rfl ?_
        refine gw_iconst dX5_obey_152 ic_3 ?_
        refine gw_iadd dX5_obey_153 ?_
        refine gw_callVi (As := [.int (p1 + (3 : Int32))]) (rest := [.int r_21, .int r_19, .ref (ad 33)]) rfl (gc_X4_digit  hw) mX4_digit lmX5_255 oX4 clX4 rfl rfl ⟨Nat.le_of_ble_eq_true rfl, Nat.le_of_ble_eq_true rfl⟩ (Nat.le_of_ble_eq_true rfl) dX5_obey_154 (fun r_23 h_22 hw => ?_)
        refine gw_callVi (As := [.int r_19, .int r_21, .int r_23]) (rest := []) rfl (gc_X1_add hb24 hw) mX1_add lmX5_263 (oX1 hb24) clX1 rfl rfl ⟨Nat.le_of_ble_eq_true rfl, Nat.le_of_ble_eq_true rfl⟩ (Nat.le_of_ble_eq_true rfl) dX5_obey_157 (fun r_25 h_24 hw => ?_)
        exact gw_ireturn (ty := .boolean) hw.2 rfl hw.1 dX5_obey_160
      · have hw := hw.2 c_17
        by_cases c_26 : r_2 = (115 : Int32)
        · have hw := hw.1 c_26
          refine gw_lsw (off := 75) (tgt := 83) dX5_obey_8 (by decide) (by rw [c_26]; decide) (by decide) ?_
          refine gw_aload_n dX5_obey_83 rfl rfl ?_
          refine gw_getf (k := 1) (v := .ref (ad 24)) oX5 clX5 inUX5 (Nat.le_of_ble_eq_true rfl) rfl lfX5_16 rfl dX5_obey_84 ?_
          refine gw_getfN (k := 1) (v := .ref (ad 29)) (oX2 hb24) clX2 inUX2 (Nat.le_of_ble_eq_true rfl) rfl lfX5_70 rfl dX5_obey_87 ?_
          refine gw_aload_n dX5_obey_90 rfl rfl ?_
          refine gw_getf (k := 4) (v := .ref (ad 70)) oX5 clX5 inUX5 (Nat.le_of_ble_eq_true rfl) rfl lfX5_29 rfl dX5_obey_91 ?_
          refine gw_iload_n dX5_obey_94 rfl rfl ?_
          refine gw_callVi (As := [.int p1]) (rest := [.ref (ad 29)]) rfl (gc_X4_kind  hw) mX4_kind lmX5_261 oX4 clX4 rfl rfl ⟨Nat.le_of_ble_eq_true rfl, Nat.le_of_ble_eq_true rfl⟩ (Nat.le_of_ble_eq_true rfl) dX5_obey_95 (fun r_28 h_27 hw => ?_)
          refine gw_aload_n dX5_obey_98 rfl rfl ?_
          refine gw_getf (k := 4) (v := .ref (ad 70)) oX5 clX5 inUX5 (Nat.le_of_ble_eq_true rfl) rfl lfX5_29 rfl dX5_obey_99 ?_
          refine gw_iload_n dX5_obey_102 rfl rfl ?_
          refine gw_iconst dX5_obey_103 ic_2 ?_
          refine gw_iadd dX5_obey_104 ?_
          refine gw_callVi (As := [.int (p1 + (2 : Int32))]) (rest := [.int r_28, .ref (ad 29)]) rfl (gc_X4_digit  hw) mX4_digit lmX5_255 oX4 clX4 rfl rfl ⟨Nat.le_of_ble_eq_true rfl, Nat.le_of_ble_eq_true rfl⟩ (Nat.le_of_ble_eq_true rfl) dX5_obey_105 (fun r_30 h_29 hw => ?_)
          refine gw_aload_n dX5_obey_108 rfl rfl ?_
          refine gw_getf (k := 4) (v := .ref (ad 70)) oX5 clX5 inUX5 (Nat.le_of_ble_eq_true rfl) rfl lfX5_29 rfl dX5_obey_109 ?_
          refine gw_iload_n dX5_obey_112 rfl rfl ?_
          refine gw_iconst dX5_obey_113 ic_3 ?_
          refine gw_iadd dX5_obey_114 ?_
          refine gw_callVi (As := [.int (p1 + (3 : Int32))]) (rest := [.int r_30, .int r_28, .ref (ad 29)]) rfl (gc_X4_digit  hw) mX4_digit lmX5_255 oX4 clX4 rfl rfl ⟨Nat.le_of_ble_eq_true rfl, Nat.le_of_ble_eq_true rfl⟩ (Nat.le_of_ble_eq_true rfl) dX5_obey_115 (fun r_32 h_31 hw => ?_)
          refine gw_callVi (As := [.int r_28, .int r_30, .int r_32]) (rest := []) rfl (gc_X3_add hb24 hw) mX3_add lmX5_244 (oX3 hb24) clX3 rfl rfl ⟨Nat.le_of_ble_eq_true rfl, Nat.le_of_ble_eq_true rfl⟩ (Nat.le_of_ble_eq_true rfl) dX5_obey_118 (fun r_34 h_33 hw => ?_)
          exact gw_ireturn (ty := .boolean) hw.2 rfl hw.1 dX5_obey_121
        · have hw := hw.2 c_26
          refine gw_lsw (off := 178) (tgt := 186) dX5_obey_8 (by decide) ((lv_osw c_3 (by decide)).trans ((lv_osw c_10 (by decide)).trans ((lv_osw c_17 (by decide)).trans ((lv_osw c_26 (by decide)).trans rfl)))) (by decide) ?_
          refine gw_aload_n dX5_obey_186 rfl rfl ?_
          refine gw_aload_n dX5_obey_187 rfl rfl ?_
          refine gw_getf (k := 4) (v := .ref (ad 70)) oX5 clX5 inUX5 (Nat.le_of_ble_eq_true rfl) rfl lfX5_29 rfl dX5_obey_188 ?_
          refine gw_iload_n dX5_obey_191 rfl rfl ?_
          refine gw_iconst dX5_obey_192 ic_1 ?_
          refine gw_iadd dX5_obey_193 ?_
          refine gw_callVi (As := [.int (p1 + (1 : Int32))]) (rest := [.ref (ad 0)]) rfl (gc_X4_value  hw) mX4_value lmX5_267 oX4 clX4 rfl rfl ⟨Nat.le_of_ble_eq_true rfl, Nat.le_of_ble_eq_true rfl⟩ (Nat.le_of_ble_eq_true rfl) dX5_obey_194 (fun r_36 h_35 hw => ?_)
          refine gw_callVi (As := [.int r_36]) (rest := []) rfl (gc_X5_setLoudInMind  hw) mX5_setLoudInMind lmX5_270 oX5 clX5 rfl rfl ⟨Nat.le_of_ble_eq_true rfl, Nat.le_of_ble_eq_true rfl⟩ (Nat.le_of_ble_eq_true rfl) dX5_obey_197 (fun r_38 h_37 hw => ?_)
          exact gw_ireturn (ty := .boolean) hw.2 rfl hw.1 dX5_obey_200
def wk_X5_obeyAll_61   (Q : Int32 → gw_H → Prop) : Int32 → gw_H → Prop :=
  fun x2 h => (wp_X2_takeAs h 1 24 (fun _ h_3 => Q x2 h_3))
set_option maxRecDepth 100000 in
set_option maxHeartbeats 4000000 in
theorem tk_X5_obeyAll_61 {l : Launch} {ad : Nat → Nat} {X : gw_X}   {Q : Int32 → gw_H → Prop}   (x2 : Int32) (h : gw_H) (hw : wk_X5_obeyAll_61   Q x2 h) : gw_G l vC ad cX5_obeyAll RX5 3 (some .int) 6 137 Q X h 61 [some (.ref (ad 0)), none, some (.int x2)] [] := by
  unfold wk_X5_obeyAll_61 at hw
  refine gw_aload_n dX5_obeyAll_61 rfl rfl ?_
  refine gw_getf (k := 0) (v := .ref (ad 1)) oX5 clX5 inUX5 (Nat.le_of_ble_eq_true rfl) rfl lfX5_10 rfl dX5_obeyAll_62 ?_
  refine gw_aload_n dX5_obeyAll_65 rfl rfl ?_
  refine gw_getf (k := 1) (v := .ref (ad 24)) oX5 clX5 inUX5 (Nat.le_of_ble_eq_true rfl) rfl lfX5_16 rfl dX5_obeyAll_66 ?_
  refine gw_callVv (As := [.ref (ad 24)]) (rest := []) rfl (gc_X2_takeAs hb1 hb24 hw) mX2_takeAs lmX5_181 (oX2 hb1) clX2 rfl rfl ⟨Nat.le_of_ble_eq_true rfl, Nat.le_of_ble_eq_true rfl⟩ (Nat.le_of_ble_eq_true rfl) dX5_obeyAll_69 (fun h_3 hw => ?_)
  refine gw_iload_n dX5_obeyAll_72 rfl rfl ?_
  exact gw_ireturn (ty := .int) hw rfl rfl dX5_obeyAll_73
def wl_X5_obeyAll_15   (Q : Int32 → gw_H → Prop) : Nat → Int32 → Int32 → gw_H → Prop
  | 0 => fun _ _ _ => False
  | n + 1 => fun x1 x2 h => (((h 70 1) ≤ x1 → (wk_X5_obeyAll_61   Q x2 h)) ∧ (¬ (h 70 1) ≤ x1 → (((96 : Int32) ≤ x2 → (wk_X5_obeyAll_61   Q x2 h)) ∧ (¬ (96 : Int32) ≤ x2 → (wp_X5_obey h x1 (fun r_6 h_5 => ((¬ r_6 = 0 → (wp_X4_behindStatement h_5 x1 (fun r_9 h_8 => ((wl_X5_obeyAll_15   Q n) r_9 (x2 + (1 : Int32)) h_8)))) ∧ (r_6 = 0 → Q ((-2000 : Int32) - x1) h_5))))))))
set_option maxRecDepth 100000 in
set_option maxHeartbeats 4000000 in
theorem tl_X5_obeyAll_15 {l : Launch} {ad : Nat → Nat} {X : gw_X}   {Q : Int32 → gw_H → Prop}   : ∀ (n : Nat) (x1 : Int32) (x2 : Int32) (h : gw_H), wl_X5_obeyAll_15   Q n x1 x2 h → gw_G l vC ad cX5_obeyAll RX5 3 (some .int) 6 137 Q X h 15 [some (.ref (ad 0)), some (.int x1), some (.int x2)] [] := by
  intro n
  induction n with
  | zero => intro x1 x2 h hw; exact hw.elim
  | succ n ih =>
    intro x1 x2 h hw
    unfold wl_X5_obeyAll_15 at hw
    refine gw_iload_n dX5_obeyAll_15 rfl rfl ?_
    refine gw_aload_n dX5_obeyAll_16 rfl rfl ?_
    refine gw_getf (k := 4) (v := .ref (ad 70)) oX5 clX5 inUX5 (Nat.le_of_ble_eq_true rfl) rfl lfX5_29 rfl dX5_obeyAll_17 ?_
    refine gw_getfN (k := 1) (v := .int (h 70 1)) oX4 clX4 inUX4 (Nat.le_of_ble_eq_true rfl) rfl lfX5_60 rfl dX5_obeyAll_20 ?_
    refine gw_icmp_ge (tgt := 61) dX5_obeyAll_23 (by decide) (fun c_2 => ?_) (fun c_2 => ?_)
    · have hw := hw.1 c_2
      refine gw_forget (ls' := [some (.ref (ad 0)), none, some (.int x2)]) (gw_sub.s (gw_sub.n (gw_sub.s gw_sub.z))) ?_
      exact tk_X5_obeyAll_61   x2 h hw
    · have hw := hw.2 c_2
      refine gw_iload_n dX5_obeyAll_26 rfl rfl ?_
      refine gw_bipush dX5_obeyAll_27 bp_96 ?_
      refine gw_icmp_ge (tgt := 61) dX5_obeyAll_29 (by decide) (fun c_4 => ?_) (fun c_4 => ?_)
      · have hw := hw.1 c_4
        refine gw_forget (ls' := [some (.ref (ad 0)), none, some (.int x2)]) (gw_sub.s (gw_sub.n (gw_sub.s gw_sub.z))) ?_
        exact tk_X5_obeyAll_61   x2 h hw
      · have hw := hw.2 c_4
        refine gw_aload_n dX5_obeyAll_32 rfl rfl ?_
        refine gw_iload_n dX5_obeyAll_33 rfl rfl ?_
        refine gw_callVi (As := [.int x1]) (rest := []) rfl (gc_X5_obey  hw) mX5_obey lmX5_246 oX5 clX5 rfl rfl ⟨Nat.le_of_ble_eq_true rfl, Nat.le_of_ble_eq_true rfl⟩ (Nat.le_of_ble_eq_true rfl) dX5_obeyAll_34 (fun r_6 h_5 hw => ?_)
        refine gw_if_ne (tgt := 46) dX5_obeyAll_37 (by decide) (fun c_7 => ?_) (fun c_7 => ?_)
        · have hw := hw.1 c_7
          refine gw_aload_n dX5_obeyAll_46 rfl rfl ?_
          refine gw_getf (k := 4) (v := .ref (ad 70)) oX5 clX5 inUX5 (Nat.le_of_ble_eq_true rfl) rfl lfX5_29 rfl dX5_obeyAll_47 ?_
          refine gw_iload_n dX5_obeyAll_50 rfl rfl ?_
          refine gw_callVi (As := [.int x1]) (rest := []) rfl (gc_X4_behindStatement  hw) mX4_behindStatement lmX5_249 oX4 clX4 rfl rfl ⟨Nat.le_of_ble_eq_true rfl, Nat.le_of_ble_eq_true rfl⟩ (Nat.le_of_ble_eq_true rfl) dX5_obeyAll_51 (fun r_9 h_8 hw => ?_)
          refine gw_istore_n (ls' := [some (.ref (ad 0)), some (.int r_9), some (.int x2)]) dX5_obeyAll_54 rfl (Nat.le_of_ble_eq_true rfl) rfl ?_
          refine gw_iinc (ls' := [some (.ref (ad 0)), some (.int r_9), some (.int (x2 + (1 : Int32)))]) dX5_obeyAll_55 rfl (congrArg (fun z => x2 + z) ic_1) (Nat.le_of_ble_eq_true rfl) rfl ?_
          refine gw_goto (tgt := 15) dX5_obeyAll_58 (by decide) ?_
          exact ih r_9 (x2 + (1 : Int32)) h_8 hw
        · have hw := hw.2 c_7
          refine gw_sipush dX5_obeyAll_40 sp_m2000 ?_
          refine gw_iload_n dX5_obeyAll_43 rfl rfl ?_
          refine gw_isub dX5_obeyAll_44 ?_
          exact gw_ireturn (ty := .int) hw rfl rfl dX5_obeyAll_45
def wp_X5_obeyAll (h : gw_H)  (Q : Int32 → gw_H → Prop) : Prop :=
  (wp_X2_takeAs h 24 1 (fun _ h_1 => (∃ n_10 : Nat, wl_X5_obeyAll_15   Q n_10 (0 : Int32) (0 : Int32) h_1)))
set_option maxRecDepth 100000 in
set_option maxHeartbeats 4000000 in
theorem gc_X5_obeyAll {l : Launch} {ad : Nat → Nat} {h : gw_H}  {Q : Int32 → gw_H → Prop}  (hw : wp_X5_obeyAll h  Q) : gw_C l yX5_obeyAll cX5_obeyAll 3 (some .int) 6 137 vC ad [.ref (ad 0)] h Q := by
  refine gw_entry (own := RX5) [some (.ref (ad 0)), none, none] pl_X5 rfl rfl (Nat.le_of_ble_eq_true rfl) rfl (fun X => ?_)
  unfold wp_X5_obeyAll at hw
  refine gw_aload_n dX5_obeyAll_0 rfl rfl ?_
  refine gw_getf (k := 1) (v := .ref (ad 24)) oX5 clX5 inUX5 (Nat.le_of_ble_eq_true rfl) rfl lfX5_16 rfl dX5_obeyAll_1 ?_
  refine gw_aload_n dX5_obeyAll_4 rfl rfl ?_
  refine gw_getf (k := 0) (v := .ref (ad 1)) oX5 clX5 inUX5 (Nat.le_of_ble_eq_true rfl) rfl lfX5_10 rfl dX5_obeyAll_5 ?_
  refine gw_callVv (As := [.ref (ad 1)]) (rest := []) rfl (gc_X2_takeAs hb24 hb1 hw) mX2_takeAs lmX5_181 (oX2 hb24) clX2 rfl rfl ⟨Nat.le_of_ble_eq_true rfl, Nat.le_of_ble_eq_true rfl⟩ (Nat.le_of_ble_eq_true rfl) dX5_obeyAll_8 (fun h_1 hw => ?_)
  refine gw_iconst dX5_obeyAll_11 ic_0 ?_
  refine gw_istore_n (ls' := [some (.ref (ad 0)), some (.int (0 : Int32)), none]) dX5_obeyAll_12 rfl (Nat.le_of_ble_eq_true rfl) rfl ?_
  refine gw_iconst dX5_obeyAll_13 ic_0 ?_
  refine gw_istore_n (ls' := [some (.ref (ad 0)), some (.int (0 : Int32)), some (.int (0 : Int32))]) dX5_obeyAll_14 rfl (Nat.le_of_ble_eq_true rfl) rfl ?_
  obtain ⟨n_10, hw⟩ := hw
  exact tl_X5_obeyAll_15   n_10 (0 : Int32) (0 : Int32) h_1 hw
def wk_X5_office_26   (Q : Int32 → gw_H → Prop) : Int32 → gw_H → Prop :=
  fun s0 h => Q s0 (gw_up h 70 1 (0 : Int32))
set_option maxRecDepth 100000 in
set_option maxHeartbeats 4000000 in
theorem tk_X5_office_26 {l : Launch} {ad : Nat → Nat} {X : gw_X}   {Q : Int32 → gw_H → Prop}   (s0 : Int32) (h : gw_H) (hw : wk_X5_office_26   Q s0 h) : gw_G l vC ad cX5_office RX5 3 (some .int) 7 159 Q X h 26 [some (.ref (ad 0)), none, none] [.int s0] := by
  unfold wk_X5_office_26 at hw
  refine gw_istore_n (ls' := [some (.ref (ad 0)), none, some (.int s0)]) dX5_office_26 rfl (Nat.le_of_ble_eq_true rfl) rfl ?_
  refine gw_aload_n dX5_office_27 rfl rfl ?_
  refine gw_getf (k := 4) (v := .ref (ad 70)) oX5 clX5 inUX5 (Nat.le_of_ble_eq_true rfl) rfl lfX5_29 rfl dX5_office_28 ?_
  refine gw_iconst dX5_office_31 ic_0 ?_
  refine gw_putfN (k := 1) (ty := .int) oX4 clX4 inUX4 tyX4_ok nmX4 (Nat.le_of_ble_eq_true rfl) rfl lfX5_60 (by decide +kernel) rfl rfl st_X4_1 dX5_office_32 ?_
  refine gw_iload_n dX5_office_35 rfl rfl ?_
  exact gw_ireturn (ty := .int) hw rfl rfl dX5_office_36
def wp_X5_office (h : gw_H)  (Q : Int32 → gw_H → Prop) : Prop :=
  (wp_X4_faultPlace h  (fun r_2 h_1 => ((¬ r_2 = (-9 : Int32) → (wk_X5_office_26   Q ((-1000 : Int32) - r_2) h_1)) ∧ (r_2 = (-9 : Int32) → (wp_X5_obeyAll h_1  (fun r_5 h_4 => (wk_X5_office_26   Q r_5 h_4)))))))
set_option maxRecDepth 100000 in
set_option maxHeartbeats 4000000 in
theorem gc_X5_office {l : Launch} {ad : Nat → Nat} {h : gw_H}  {Q : Int32 → gw_H → Prop}  (hw : wp_X5_office h  Q) : gw_C l yX5_office cX5_office 3 (some .int) 7 159 vC ad [.ref (ad 0)] h Q := by
  refine gw_entry (own := RX5) [some (.ref (ad 0)), none, none] pl_X5 rfl rfl (Nat.le_of_ble_eq_true rfl) rfl (fun X => ?_)
  unfold wp_X5_office at hw
  refine gw_aload_n dX5_office_0 rfl rfl ?_
  refine gw_getf (k := 4) (v := .ref (ad 70)) oX5 clX5 inUX5 (Nat.le_of_ble_eq_true rfl) rfl lfX5_29 rfl dX5_office_1 ?_
  refine gw_callVi (As := []) (rest := []) rfl (gc_X4_faultPlace  hw) mX4_faultPlace lmX5_63 oX4 clX4 rfl rfl ⟨Nat.le_of_ble_eq_true rfl, Nat.le_of_ble_eq_true rfl⟩ (Nat.le_of_ble_eq_true rfl) dX5_office_4 (fun r_2 h_1 hw => ?_)
  refine gw_istore_n (ls' := [some (.ref (ad 0)), some (.int r_2), none]) dX5_office_7 rfl (Nat.le_of_ble_eq_true rfl) rfl ?_
  refine gw_iload_n dX5_office_8 rfl rfl ?_
  refine gw_bipush dX5_office_9 bp_m9 ?_
  refine gw_icmp_ne (tgt := 21) dX5_office_11 (by decide) (fun c_3 => ?_) (fun c_3 => ?_)
  · have hw := hw.1 c_3
    refine gw_sipush dX5_office_21 sp_m1000 ?_
    refine gw_iload_n dX5_office_24 rfl rfl ?_
    refine gw_isub dX5_office_25 ?_
    refine gw_forget (ls' := [some (.ref (ad 0)), none, none]) (gw_sub.s (gw_sub.n (gw_sub.n gw_sub.z))) ?_
    exact tk_X5_office_26   ((-1000 : Int32) - r_2) h_1 hw
  · have hw := hw.2 c_3
    refine gw_aload_n dX5_office_14 rfl rfl ?_
    refine gw_callVi (As := []) (rest := []) rfl (gc_X5_obeyAll  hw) mX5_obeyAll lmX5_67 oX5 clX5 rfl rfl ⟨Nat.le_of_ble_eq_true rfl, Nat.le_of_ble_eq_true rfl⟩ (Nat.le_of_ble_eq_true rfl) dX5_office_15 (fun r_5 h_4 hw => ?_)
    refine gw_goto (tgt := 26) dX5_office_18 (by decide) ?_
    refine gw_forget (ls' := [some (.ref (ad 0)), none, none]) (gw_sub.s (gw_sub.n (gw_sub.n gw_sub.z))) ?_
    exact tk_X5_office_26   r_5 h_4 hw
def wp_X5_on (h : gw_H)  (Q : Int32 → gw_H → Prop) : Prop :=
  ((¬ (h 0 3) = 0 → (wp_X2_takeAs h 1 47 (fun _ h_2 => Q (h_2 1 3) h_2))) ∧ ((h 0 3) = 0 → (wp_X5_refuse h (-3 : Int32) (fun r_4 h_3 => Q r_4 h_3))))
set_option maxRecDepth 100000 in
set_option maxHeartbeats 4000000 in
theorem gc_X5_on {l : Launch} {ad : Nat → Nat} {h : gw_H}  {Q : Int32 → gw_H → Prop}  (hw : wp_X5_on h  Q) : gw_C l yX5_on cX5_on 1 (some .int) 4 124 vC ad [.ref (ad 0)] h Q := by
  refine gw_entry (own := RX5) [some (.ref (ad 0))] pl_X5 rfl rfl (Nat.le_of_ble_eq_true rfl) rfl (fun X => ?_)
  unfold wp_X5_on at hw
  refine gw_aload_n dX5_on_0 rfl rfl ?_
  refine gw_getf (k := 3) (v := .int (h 0 3)) oX5 clX5 inUX5 (Nat.le_of_ble_eq_true rfl) rfl lfX5_22 rfl dX5_on_1 ?_
  refine gw_if_ne (tgt := 14) dX5_on_4 (by decide) (fun c_1 => ?_) (fun c_1 => ?_)
  · have hw := hw.1 c_1
    refine gw_aload_n dX5_on_14 rfl rfl ?_
    refine gw_getf (k := 0) (v := .ref (ad 1)) oX5 clX5 inUX5 (Nat.le_of_ble_eq_true rfl) rfl lfX5_10 rfl dX5_on_15 ?_
    refine gw_aload_n dX5_on_18 rfl rfl ?_
    refine gw_getf (k := 2) (v := .ref (ad 47)) oX5 clX5 inUX5 (Nat.le_of_ble_eq_true rfl) rfl lfX5_19 rfl dX5_on_19 ?_
    refine gw_callVv (As := [.ref (ad 47)]) (rest := []) rfl (gc_X2_takeAs hb1 hb47 hw) mX2_takeAs lmX5_181 (oX2 hb1) clX2 rfl rfl ⟨Nat.le_of_ble_eq_true rfl, Nat.le_of_ble_eq_true rfl⟩ (Nat.le_of_ble_eq_true rfl) dX5_on_22 (fun h_2 hw => ?_)
    refine gw_aload_n dX5_on_25 rfl rfl ?_
    refine gw_getf (k := 0) (v := .ref (ad 1)) oX5 clX5 inUX5 (Nat.le_of_ble_eq_true rfl) rfl lfX5_10 rfl dX5_on_26 ?_
    refine gw_getfN (k := 3) (v := .int (h_2 1 3)) (oX2 hb1) clX2 inUX2 (Nat.le_of_ble_eq_true rfl) rfl lfX5_128 rfl dX5_on_29 ?_
    exact gw_ireturn (ty := .int) hw rfl rfl dX5_on_32
  · have hw := hw.2 c_1
    refine gw_aload_n dX5_on_7 rfl rfl ?_
    refine gw_bipush dX5_on_8 bp_m3 ?_
    refine gw_callVi (As := [.int (-3 : Int32)]) (rest := []) rfl (gc_X5_refuse  hw) mX5_refuse lmX5_48 oX5 clX5 rfl rfl ⟨Nat.le_of_ble_eq_true rfl, Nat.le_of_ble_eq_true rfl⟩ (Nat.le_of_ble_eq_true rfl) dX5_on_10 (fun r_4 h_3 hw => ?_)
    exact gw_ireturn (ty := .int) hw rfl rfl dX5_on_13
def wk_X5_otherwise_178 (p1 : Int32) (p2 : Int32) (K66 : Int32 → Int32 → Int32 → gw_H → Prop) (K84 : Int32 → Int32 → Int32 → Int32 → gw_H → Prop) (Q : Int32 → gw_H → Prop) : Int32 → Int32 → Int32 → Int32 → gw_H → Prop :=
  fun x4 x5 x6 x7 h => (K84 x4 x5 x6 (x7 + (1 : Int32)) h)
set_option maxRecDepth 100000 in
set_option maxHeartbeats 4000000 in
theorem tk_X5_otherwise_178 {l : Launch} {ad : Nat → Nat} {X : gw_X} {p1 : Int32} {p2 : Int32} {K66 : Int32 → Int32 → Int32 → gw_H → Prop} {K84 : Int32 → Int32 → Int32 → Int32 → gw_H → Prop} {Q : Int32 → gw_H → Prop}  (hK66 : ∀ (y4 : Int32) (y5 : Int32) (y6 : Int32) (h : gw_H), K66 y4 y5 y6 h → gw_G l vC ad cX5_otherwise RX5 9 (some .int) 6 147 Q X h 66 [some (.ref (ad 0)), some (.int p1), some (.int p2), none, some (.int y4), some (.int y5), some (.int y6), none, none] []) (hK84 : ∀ (y4 : Int32) (y5 : Int32) (y6 : Int32) (y7 : Int32) (h : gw_H), K84 y4 y5 y6 y7 h → gw_G l vC ad cX5_otherwise RX5 9 (some .int) 6 147 Q X h 84 [some (.ref (ad 0)), some (.int p1), some (.int p2), none, some (.int y4), some (.int y5), some (.int y6), some (.int y7), none] []) (x4 : Int32) (x5 : Int32) (x6 : Int32) (x7 : Int32) (h : gw_H) (hw : wk_X5_otherwise_178 p1 p2 K66 K84 Q x4 x5 x6 x7 h) : gw_G l vC ad cX5_otherwise RX5 9 (some .int) 6 147 Q X h 178 [some (.ref (ad 0)), some (.int p1), some (.int p2), none, some (.int x4), some (.int x5), some (.int x6), some (.int x7), none] [] := by
  unfold wk_X5_otherwise_178 at hw
  refine gw_iinc (ls' := [some (.ref (ad 0)), some (.int p1), some (.int p2), none, some (.int x4), some (.int x5), some (.int x6), some (.int (x7 + (1 : Int32))), none]) dX5_otherwise_178 rfl (congrArg (fun z => x7 + z) ic_1) (Nat.le_of_ble_eq_true rfl) rfl ?_
  refine gw_goto (tgt := 84) dX5_otherwise_181 (by decide) ?_
  exact hK84 x4 x5 x6 (x7 + (1 : Int32)) h hw
def wk_X5_otherwise_121 (p1 : Int32) (p2 : Int32) (K66 : Int32 → Int32 → Int32 → gw_H → Prop) (K84 : Int32 → Int32 → Int32 → Int32 → gw_H → Prop) (Q : Int32 → gw_H → Prop) : Int32 → Int32 → Int32 → Int32 → Int32 → gw_H → Prop :=
  fun x4 x5 x6 x7 s0 h => (wp_X5_at h (14) 6 x6 (fun r_11 h_10 => ((s0 = r_11 → (wk_X5_otherwise_178 p1 p2 K66 K84 Q x4 x5 x6 x7 h_10)) ∧ (¬ s0 = r_11 → (wp_X5_leadsToTold h_10 x6 s0 p1 (fun r_14 h_13 => ((r_14 = 0 → (wk_X5_otherwise_178 p1 p2 K66 K84 Q x4 x5 x6 x7 h_13)) ∧ (¬ r_14 = 0 → ((¬ x5 = (-9 : Int32) → (wk_X5_otherwise_178 p1 p2 K66 K84 Q (x4 + (1 : Int32)) x5 x6 x7 h_13)) ∧ (x5 = (-9 : Int32) → (wp_X5_inRow h_13 s0 (fun r_18 h_17 => (wk_X5_otherwise_178 p1 p2 K66 K84 Q (x4 + (1 : Int32)) (((10 : Int32) * x6) + r_18) x6 x7 h_17)))))))))))))
set_option maxRecDepth 100000 in
set_option maxHeartbeats 4000000 in
theorem tk_X5_otherwise_121 {l : Launch} {ad : Nat → Nat} {X : gw_X} {p1 : Int32} {p2 : Int32} {K66 : Int32 → Int32 → Int32 → gw_H → Prop} {K84 : Int32 → Int32 → Int32 → Int32 → gw_H → Prop} {Q : Int32 → gw_H → Prop}  (hK66 : ∀ (y4 : Int32) (y5 : Int32) (y6 : Int32) (h : gw_H), K66 y4 y5 y6 h → gw_G l vC ad cX5_otherwise RX5 9 (some .int) 6 147 Q X h 66 [some (.ref (ad 0)), some (.int p1), some (.int p2), none, some (.int y4), some (.int y5), some (.int y6), none, none] []) (hK84 : ∀ (y4 : Int32) (y5 : Int32) (y6 : Int32) (y7 : Int32) (h : gw_H), K84 y4 y5 y6 y7 h → gw_G l vC ad cX5_otherwise RX5 9 (some .int) 6 147 Q X h 84 [some (.ref (ad 0)), some (.int p1), some (.int p2), none, some (.int y4), some (.int y5), some (.int y6), some (.int y7), none] []) (x4 : Int32) (x5 : Int32) (x6 : Int32) (x7 : Int32) (s0 : Int32) (h : gw_H) (hw : wk_X5_otherwise_121 p1 p2 K66 K84 Q x4 x5 x6 x7 s0 h) : gw_G l vC ad cX5_otherwise RX5 9 (some .int) 6 147 Q X h 121 [some (.ref (ad 0)), some (.int p1), some (.int p2), none, some (.int x4), some (.int x5), some (.int x6), some (.int x7), none] [.int s0] := by
  unfold wk_X5_otherwise_121 at hw
  refine gw_istore (ls' := [some (.ref (ad 0)), some (.int p1), some (.int p2), none, some (.int x4), some (.int x5), some (.int x6), some (.int x7), some (.int s0)]) dX5_otherwise_121 (Nat.le_of_ble_eq_true rfl) rfl ?_
  refine gw_iload dX5_otherwise_123 rfl ?_
  refine gw_aload_n dX5_otherwise_125 rfl rfl ?_
  refine gw_getf (k := 0) (v := .ref (ad 1)) oX5 clX5 inUX5 (Nat.le_of_ble_eq_true rfl) rfl lfX5_10 rfl dX5_otherwise_126 ?_
  refine gw_getfN (k := 2) (v := .ref (ad 10)) (oX2 hb1) clX2 inUX2 (Nat.le_of_ble_eq_true rfl) rfl lfX5_96 rfl dX5_otherwise_129 ?_
  refine gw_getfN (k := 3) (v := .ref (ad 14)) (oX1 hb1) clX1 inUX1 (Nat.le_of_ble_eq_true rfl) rfl lfX5_113 rfl dX5_otherwise_132 ?_
  refine gw_iload dX5_otherwise_135 rfl ?_
  refine gw_callSi (As := [.ref (ad 14), .int x6]) (rest := [.int s0]) rfl (gc_X5_at (ar_13 hb1) hw) mX5_at lmX5_83 rfl rfl ⟨Nat.le_of_ble_eq_true rfl, Nat.le_of_ble_eq_true rfl⟩ (Nat.le_of_ble_eq_true rfl) dX5_otherwise_137 (fun r_11 h_10 hw => ?_)
  refine gw_icmp_eq (tgt := 178) dX5_otherwise_140 (by decide) (fun c_12 => ?_) (fun c_12 => ?_)
  · have hw := hw.1 c_12
    refine gw_forget (ls' := [some (.ref (ad 0)), some (.int p1), some (.int p2), none, some (.int x4), some (.int x5), some (.int x6), some (.int x7), none]) (gw_sub.s (gw_sub.s (gw_sub.s (gw_sub.n (gw_sub.s (gw_sub.s (gw_sub.s (gw_sub.s (gw_sub.n gw_sub.z))))))))) ?_
    exact tk_X5_otherwise_178  hK66 hK84 x4 x5 x6 x7 h_10 hw
  · have hw := hw.2 c_12
    refine gw_aload_n dX5_otherwise_143 rfl rfl ?_
    refine gw_iload dX5_otherwise_144 rfl ?_
    refine gw_iload dX5_otherwise_146 rfl ?_
    refine gw_iload_n dX5_otherwise_148 rfl rfl ?_
    refine gw_callVi (As := [.int x6, .int s0, .int p1]) (rest := []) rfl (gc_X5_leadsToTold  hw) mX5_leadsToTold lmX5_214 oX5 clX5 rfl rfl ⟨Nat.le_of_ble_eq_true rfl, Nat.le_of_ble_eq_true rfl⟩ (Nat.le_of_ble_eq_true rfl) dX5_otherwise_149 (fun r_14 h_13 hw => ?_)
    refine gw_if_eq (tgt := 178) dX5_otherwise_152 (by decide) (fun c_15 => ?_) (fun c_15 => ?_)
    · have hw := hw.1 c_15
      refine gw_forget (ls' := [some (.ref (ad 0)), some (.int p1), some (.int p2), none, some (.int x4), some (.int x5), some (.int x6), some (.int x7), none]) (gw_sub.s (gw_sub.s (gw_sub.s (gw_sub.n (gw_sub.s (gw_sub.s (gw_sub.s (gw_sub.s (gw_sub.n gw_sub.z))))))))) ?_
      exact tk_X5_otherwise_178  hK66 hK84 x4 x5 x6 x7 h_13 hw
    · have hw := hw.2 c_15
      refine gw_iinc (ls' := [some (.ref (ad 0)), some (.int p1), some (.int p2), none, some (.int (x4 + (1 : Int32))), some (.int x5), some (.int x6), some (.int x7), some (.int s0)]) dX5_otherwise_155 rfl (congrArg (fun z => x4 + z) ic_1) (Nat.le_of_ble_eq_true rfl) rfl ?_
      refine gw_iload dX5_otherwise_158 rfl ?_
      refine gw_bipush dX5_otherwise_160 bp_m9 ?_
      refine gw_icmp_ne (tgt := 178) dX5_otherwise_162 (by decide) (fun c_16 => ?_) (fun c_16 => ?_)
      · have hw := hw.1 c_16
        refine gw_forget (ls' := [some (.ref (ad 0)), some (.int p1), some (.int p2), none, some (.int (x4 + (1 : Int32))), some (.int x5), some (.int x6), some (.int x7), none]) (gw_sub.s (gw_sub.s (gw_sub.s (gw_sub.n (gw_sub.s (gw_sub.s (gw_sub.s (gw_sub.s (gw_sub.n gw_sub.z))))))))) ?_
        exact tk_X5_otherwise_178  hK66 hK84 (x4 + (1 : Int32)) x5 x6 x7 h_13 hw
      · have hw := hw.2 c_16
        refine gw_bipush dX5_otherwise_165 bp_10 ?_
        refine gw_iload dX5_otherwise_167 rfl ?_
        refine gw_imul dX5_otherwise_169 ?_
        refine gw_iload dX5_otherwise_170 rfl ?_
        refine gw_callSi (As := [.int s0]) (rest := [.int ((10 : Int32) * x6)]) rfl (gc_X5_inRow  hw) mX5_inRow lmX5_217 rfl rfl ⟨Nat.le_of_ble_eq_true rfl, Nat.le_of_ble_eq_true rfl⟩ (Nat.le_of_ble_eq_true rfl) dX5_otherwise_172 (fun r_18 h_17 hw => ?_)
        refine gw_iadd dX5_otherwise_175 ?_
        refine gw_istore (ls' := [some (.ref (ad 0)), some (.int p1), some (.int p2), none, some (.int (x4 + (1 : Int32))), some (.int (((10 : Int32) * x6) + r_18)), some (.int x6), some (.int x7), some (.int s0)]) dX5_otherwise_176 (Nat.le_of_ble_eq_true rfl) rfl ?_
        refine gw_forget (ls' := [some (.ref (ad 0)), some (.int p1), some (.int p2), none, some (.int (x4 + (1 : Int32))), some (.int (((10 : Int32) * x6) + r_18)), some (.int x6), some (.int x7), none]) (gw_sub.s (gw_sub.s (gw_sub.s (gw_sub.n (gw_sub.s (gw_sub.s (gw_sub.s (gw_sub.s (gw_sub.n gw_sub.z))))))))) ?_
        exact tk_X5_otherwise_178  hK66 hK84 (x4 + (1 : Int32)) (((10 : Int32) * x6) + r_18) x6 x7 h_17 hw
def wl_X5_otherwise_84 (p1 : Int32) (p2 : Int32) (K66 : Int32 → Int32 → Int32 → gw_H → Prop) (Q : Int32 → gw_H → Prop) : Nat → Int32 → Int32 → Int32 → Int32 → gw_H → Prop
  | 0 => fun _ _ _ _ _ => False
  | n + 1 => fun x4 x5 x6 x7 h => (((h 6 3) < x7 → (K66 x4 x5 (x6 + (1 : Int32)) h)) ∧ (¬ (h 6 3) < x7 → (((h 6 3) ≤ x7 → (wk_X5_otherwise_121 p1 p2 K66 (wl_X5_otherwise_84 p1 p2 K66 Q n) Q x4 x5 x6 x7 (-9 : Int32) h)) ∧ (¬ (h 6 3) ≤ x7 → (wk_X5_otherwise_121 p1 p2 K66 (wl_X5_otherwise_84 p1 p2 K66 Q n) Q x4 x5 x6 x7 x7 h)))))
set_option maxRecDepth 100000 in
set_option maxHeartbeats 4000000 in
theorem tl_X5_otherwise_84 {l : Launch} {ad : Nat → Nat} {X : gw_X} {p1 : Int32} {p2 : Int32} {K66 : Int32 → Int32 → Int32 → gw_H → Prop} {Q : Int32 → gw_H → Prop}  (hK66 : ∀ (y4 : Int32) (y5 : Int32) (y6 : Int32) (h : gw_H), K66 y4 y5 y6 h → gw_G l vC ad cX5_otherwise RX5 9 (some .int) 6 147 Q X h 66 [some (.ref (ad 0)), some (.int p1), some (.int p2), none, some (.int y4), some (.int y5), some (.int y6), none, none] []) : ∀ (n : Nat) (x4 : Int32) (x5 : Int32) (x6 : Int32) (x7 : Int32) (h : gw_H), wl_X5_otherwise_84 p1 p2 K66 Q n x4 x5 x6 x7 h → gw_G l vC ad cX5_otherwise RX5 9 (some .int) 6 147 Q X h 84 [some (.ref (ad 0)), some (.int p1), some (.int p2), none, some (.int x4), some (.int x5), some (.int x6), some (.int x7), none] [] := by
  intro n
  induction n with
  | zero => intro x4 x5 x6 x7 h hw; exact hw.elim
  | succ n ih =>
    intro x4 x5 x6 x7 h hw
    unfold wl_X5_otherwise_84 at hw
    refine gw_iload dX5_otherwise_84 rfl ?_
    refine gw_aload_n dX5_otherwise_86 rfl rfl ?_
    refine gw_getf (k := 0) (v := .ref (ad 1)) oX5 clX5 inUX5 (Nat.le_of_ble_eq_true rfl) rfl lfX5_10 rfl dX5_otherwise_87 ?_
    refine gw_getfN (k := 1) (v := .ref (ad 6)) (oX2 hb1) clX2 inUX2 (Nat.le_of_ble_eq_true rfl) rfl lfX5_70 rfl dX5_otherwise_90 ?_
    refine gw_getfN (k := 3) (v := .int (h 6 3)) (oX3 hb1) clX3 inUX3 (Nat.le_of_ble_eq_true rfl) rfl lfX5_185 rfl dX5_otherwise_93 ?_
    refine gw_icmp_gt (tgt := 184) dX5_otherwise_96 (by decide) (fun c_8 => ?_) (fun c_8 => ?_)
    · have hw := hw.1 c_8
      refine gw_iinc (ls' := [some (.ref (ad 0)), some (.int p1), some (.int p2), none, some (.int x4), some (.int x5), some (.int (x6 + (1 : Int32))), some (.int x7), none]) dX5_otherwise_184 rfl (congrArg (fun z => x6 + z) ic_1) (Nat.le_of_ble_eq_true rfl) rfl ?_
      refine gw_goto (tgt := 66) dX5_otherwise_187 (by decide) ?_
      refine gw_forget (ls' := [some (.ref (ad 0)), some (.int p1), some (.int p2), none, some (.int x4), some (.int x5), some (.int (x6 + (1 : Int32))), none, none]) (gw_sub.s (gw_sub.s (gw_sub.s (gw_sub.n (gw_sub.s (gw_sub.s (gw_sub.s (gw_sub.n (gw_sub.n gw_sub.z))))))))) ?_
      exact hK66 x4 x5 (x6 + (1 : Int32)) h hw
    · have hw := hw.2 c_8
      refine gw_iload dX5_otherwise_99 rfl ?_
      refine gw_aload_n dX5_otherwise_101 rfl rfl ?_
      refine gw_getf (k := 0) (v := .ref (ad 1)) oX5 clX5 inUX5 (Nat.le_of_ble_eq_true rfl) rfl lfX5_10 rfl dX5_otherwise_102 ?_
      refine gw_getfN (k := 1) (v := .ref (ad 6)) (oX2 hb1) clX2 inUX2 (Nat.le_of_ble_eq_true rfl) rfl lfX5_70 rfl dX5_otherwise_105 ?_
      refine gw_getfN (k := 3) (v := .int (h 6 3)) (oX3 hb1) clX3 inUX3 (Nat.le_of_ble_eq_true rfl) rfl lfX5_185 rfl dX5_otherwise_108 ?_
      refine gw_icmp_ge (tgt := 119) dX5_otherwise_111 (by decide) (fun c_9 => ?_) (fun c_9 => ?_)
      · have hw := hw.1 c_9
        refine gw_bipush dX5_otherwise_119 bp_m9 ?_
        exact tk_X5_otherwise_121  hK66  ih x4 x5 x6 x7 (-9 : Int32) h hw
      · have hw := hw.2 c_9
        refine gw_iload dX5_otherwise_114 rfl ?_
        refine gw_goto (tgt := 121) dX5_otherwise_116 (by decide) ?_
        exact tk_X5_otherwise_121  hK66  ih x4 x5 x6 x7 x7 h hw
def wl_X5_otherwise_66 (p1 : Int32) (p2 : Int32)  (Q : Int32 → gw_H → Prop) : Nat → Int32 → Int32 → Int32 → gw_H → Prop
  | 0 => fun _ _ _ _ => False
  | n + 1 => fun x4 x5 x6 h => (((h 10 8) ≤ x6 → ((¬ p2 = 0 → Q x5 h) ∧ (p2 = 0 → Q x4 h))) ∧ (¬ (h 10 8) ≤ x6 → (∃ n_19 : Nat, wl_X5_otherwise_84 p1 p2 (wl_X5_otherwise_66 p1 p2  Q n) Q n_19 x4 x5 x6 (0 : Int32) h)))
set_option maxRecDepth 100000 in
set_option maxHeartbeats 4000000 in
theorem tl_X5_otherwise_66 {l : Launch} {ad : Nat → Nat} {X : gw_X} {p1 : Int32} {p2 : Int32}  {Q : Int32 → gw_H → Prop}   : ∀ (n : Nat) (x4 : Int32) (x5 : Int32) (x6 : Int32) (h : gw_H), wl_X5_otherwise_66 p1 p2  Q n x4 x5 x6 h → gw_G l vC ad cX5_otherwise RX5 9 (some .int) 6 147 Q X h 66 [some (.ref (ad 0)), some (.int p1), some (.int p2), none, some (.int x4), some (.int x5), some (.int x6), none, none] [] := by
  intro n
  induction n with
  | zero => intro x4 x5 x6 h hw; exact hw.elim
  | succ n ih =>
    intro x4 x5 x6 h hw
    unfold wl_X5_otherwise_66 at hw
    refine gw_iload dX5_otherwise_66 rfl ?_
    refine gw_aload_n dX5_otherwise_68 rfl rfl ?_
    refine gw_getf (k := 0) (v := .ref (ad 1)) oX5 clX5 inUX5 (Nat.le_of_ble_eq_true rfl) rfl lfX5_10 rfl dX5_otherwise_69 ?_
    refine gw_getfN (k := 2) (v := .ref (ad 10)) (oX2 hb1) clX2 inUX2 (Nat.le_of_ble_eq_true rfl) rfl lfX5_96 rfl dX5_otherwise_72 ?_
    refine gw_getfN (k := 8) (v := .int (h 10 8)) (oX1 hb1) clX1 inUX1 (Nat.le_of_ble_eq_true rfl) rfl lfX5_202 rfl dX5_otherwise_75 ?_
    refine gw_icmp_ge (tgt := 190) dX5_otherwise_78 (by decide) (fun c_6 => ?_) (fun c_6 => ?_)
    · have hw := hw.1 c_6
      refine gw_iload_n dX5_otherwise_190 rfl rfl ?_
      refine gw_if_ne (tgt := 199) dX5_otherwise_191 (by decide) (fun c_7 => ?_) (fun c_7 => ?_)
      · have hw := hw.1 c_7
        refine gw_iload dX5_otherwise_199 rfl ?_
        exact gw_ireturn (ty := .int) hw rfl rfl dX5_otherwise_201
      · have hw := hw.2 c_7
        refine gw_iload dX5_otherwise_194 rfl ?_
        refine gw_goto (tgt := 201) dX5_otherwise_196 (by decide) ?_
        exact gw_ireturn (ty := .int) hw rfl rfl dX5_otherwise_201
    · have hw := hw.2 c_6
      refine gw_iconst dX5_otherwise_81 ic_0 ?_
      refine gw_istore (ls' := [some (.ref (ad 0)), some (.int p1), some (.int p2), none, some (.int x4), some (.int x5), some (.int x6), some (.int (0 : Int32)), none]) dX5_otherwise_82 (Nat.le_of_ble_eq_true rfl) rfl ?_
      obtain ⟨n_19, hw⟩ := hw
      exact tl_X5_otherwise_84  ih n_19 x4 x5 x6 (0 : Int32) h hw
def wk_X5_otherwise_46 (p1 : Int32) (p2 : Int32)  (Q : Int32 → gw_H → Prop) : Int32 → gw_H → Prop :=
  fun x3 h => ((x3 = 0 → (∃ n_20 : Nat, wl_X5_otherwise_66 p1 p2  Q n_20 (0 : Int32) (-9 : Int32) (0 : Int32) h)) ∧ (¬ x3 = 0 → (wp_X5_refuse h x3 (fun r_22 h_21 => Q r_22 h_21))))
set_option maxRecDepth 100000 in
set_option maxHeartbeats 4000000 in
theorem tk_X5_otherwise_46 {l : Launch} {ad : Nat → Nat} {X : gw_X} {p1 : Int32} {p2 : Int32}  {Q : Int32 → gw_H → Prop}   (x3 : Int32) (h : gw_H) (hw : wk_X5_otherwise_46 p1 p2  Q x3 h) : gw_G l vC ad cX5_otherwise RX5 9 (some .int) 6 147 Q X h 46 [some (.ref (ad 0)), some (.int p1), some (.int p2), some (.int x3), none, none, none, none, none] [] := by
  unfold wk_X5_otherwise_46 at hw
  refine gw_iload_n dX5_otherwise_46 rfl rfl ?_
  refine gw_if_eq (tgt := 56) dX5_otherwise_47 (by decide) (fun c_5 => ?_) (fun c_5 => ?_)
  · have hw := hw.1 c_5
    refine gw_iconst dX5_otherwise_56 ic_0 ?_
    refine gw_istore (ls' := [some (.ref (ad 0)), some (.int p1), some (.int p2), some (.int x3), some (.int (0 : Int32)), none, none, none, none]) dX5_otherwise_57 (Nat.le_of_ble_eq_true rfl) rfl ?_
    refine gw_bipush dX5_otherwise_59 bp_m9 ?_
    refine gw_istore (ls' := [some (.ref (ad 0)), some (.int p1), some (.int p2), some (.int x3), some (.int (0 : Int32)), some (.int (-9 : Int32)), none, none, none]) dX5_otherwise_61 (Nat.le_of_ble_eq_true rfl) rfl ?_
    refine gw_iconst dX5_otherwise_63 ic_0 ?_
    refine gw_istore (ls' := [some (.ref (ad 0)), some (.int p1), some (.int p2), some (.int x3), some (.int (0 : Int32)), some (.int (-9 : Int32)), some (.int (0 : Int32)), none, none]) dX5_otherwise_64 (Nat.le_of_ble_eq_true rfl) rfl ?_
    refine gw_forget (ls' := [some (.ref (ad 0)), some (.int p1), some (.int p2), none, some (.int (0 : Int32)), some (.int (-9 : Int32)), some (.int (0 : Int32)), none, none]) (gw_sub.s (gw_sub.s (gw_sub.s (gw_sub.n (gw_sub.s (gw_sub.s (gw_sub.s (gw_sub.n (gw_sub.n gw_sub.z))))))))) ?_
    obtain ⟨n_20, hw⟩ := hw
    exact tl_X5_otherwise_66   n_20 (0 : Int32) (-9 : Int32) (0 : Int32) h hw
  · have hw := hw.2 c_5
    refine gw_aload_n dX5_otherwise_50 rfl rfl ?_
    refine gw_iload_n dX5_otherwise_51 rfl rfl ?_
    refine gw_callVi (As := [.int x3]) (rest := []) rfl (gc_X5_refuse  hw) mX5_refuse lmX5_48 oX5 clX5 rfl rfl ⟨Nat.le_of_ble_eq_true rfl, Nat.le_of_ble_eq_true rfl⟩ (Nat.le_of_ble_eq_true rfl) dX5_otherwise_52 (fun r_22 h_21 hw => ?_)
    exact gw_ireturn (ty := .int) hw rfl rfl dX5_otherwise_55
def wk_X5_otherwise_22 (p1 : Int32) (p2 : Int32)  (Q : Int32 → gw_H → Prop) : Int32 → gw_H → Prop :=
  fun x3 h => ((¬ x3 = 0 → (wk_X5_otherwise_46 p1 p2  Q x3 h)) ∧ (x3 = 0 → (((h 0 6) = (h 10 8) → (wk_X5_otherwise_46 p1 p2  Q x3 h)) ∧ (¬ (h 0 6) = (h 10 8) → (wk_X5_otherwise_46 p1 p2  Q (-3 : Int32) h)))))
set_option maxRecDepth 100000 in
set_option maxHeartbeats 4000000 in
theorem tk_X5_otherwise_22 {l : Launch} {ad : Nat → Nat} {X : gw_X} {p1 : Int32} {p2 : Int32}  {Q : Int32 → gw_H → Prop}   (x3 : Int32) (h : gw_H) (hw : wk_X5_otherwise_22 p1 p2  Q x3 h) : gw_G l vC ad cX5_otherwise RX5 9 (some .int) 6 147 Q X h 22 [some (.ref (ad 0)), some (.int p1), some (.int p2), some (.int x3), none, none, none, none, none] [] := by
  unfold wk_X5_otherwise_22 at hw
  refine gw_iload_n dX5_otherwise_22 rfl rfl ?_
  refine gw_if_ne (tgt := 46) dX5_otherwise_23 (by decide) (fun c_4 => ?_) (fun c_4 => ?_)
  · have hw := hw.1 c_4
    exact tk_X5_otherwise_46   x3 h hw
  · have hw := hw.2 c_4
    refine gw_aload_n dX5_otherwise_26 rfl rfl ?_
    refine gw_getf (k := 6) (v := .int (h 0 6)) oX5 clX5 inUX5 (Nat.le_of_ble_eq_true rfl) rfl lfX5_37 rfl dX5_otherwise_27 ?_
    refine gw_aload_n dX5_otherwise_30 rfl rfl ?_
    refine gw_getf (k := 0) (v := .ref (ad 1)) oX5 clX5 inUX5 (Nat.le_of_ble_eq_true rfl) rfl lfX5_10 rfl dX5_otherwise_31 ?_
    refine gw_getfN (k := 2) (v := .ref (ad 10)) (oX2 hb1) clX2 inUX2 (Nat.le_of_ble_eq_true rfl) rfl lfX5_96 rfl dX5_otherwise_34 ?_
    refine gw_getfN (k := 8) (v := .int (h 10 8)) (oX1 hb1) clX1 inUX1 (Nat.le_of_ble_eq_true rfl) rfl lfX5_202 rfl dX5_otherwise_37 ?_
    refine gw_icmp_eq (tgt := 46) dX5_otherwise_40 (by decide) (fun c_23 => ?_) (fun c_23 => ?_)
    · have hw := hw.1 c_23
      exact tk_X5_otherwise_46   x3 h hw
    · have hw := hw.2 c_23
      refine gw_bipush dX5_otherwise_43 bp_m3 ?_
      refine gw_istore_n (ls' := [some (.ref (ad 0)), some (.int p1), some (.int p2), some (.int (-3 : Int32)), none, none, none, none, none]) dX5_otherwise_45 rfl (Nat.le_of_ble_eq_true rfl) rfl ?_
      exact tk_X5_otherwise_46   (-3 : Int32) h hw
def wp_X5_otherwise (h : gw_H) (p1 : Int32) (p2 : Int32) (Q : Int32 → gw_H → Prop) : Prop :=
  (wp_X5_outside h p1 (0 : Int32) (60 : Int32) (fun r_2 h_1 => ((¬ r_2 = 0 → (wk_X5_otherwise_22 p1 p2  Q r_2 h_1)) ∧ (r_2 = 0 → (wp_X5_isNeither h_1 p2 (fun r_25 h_24 => ((r_25 = 0 → (wk_X5_otherwise_22 p1 p2  Q r_2 h_24)) ∧ (¬ r_25 = 0 → (wk_X5_otherwise_22 p1 p2  Q (-2 : Int32) h_24)))))))))
set_option maxRecDepth 100000 in
set_option maxHeartbeats 4000000 in
theorem gc_X5_otherwise {l : Launch} {ad : Nat → Nat} {h : gw_H} {p1 : Int32} {p2 : Int32} {Q : Int32 → gw_H → Prop}  (hw : wp_X5_otherwise h p1 p2 Q) : gw_C l yX5_otherwise cX5_otherwise 9 (some .int) 6 147 vC ad [.ref (ad 0), .int p1, .int p2] h Q := by
  refine gw_entry (own := RX5) [some (.ref (ad 0)), some (.int p1), some (.int p2), none, none, none, none, none, none] pl_X5 rfl rfl (Nat.le_of_ble_eq_true rfl) rfl (fun X => ?_)
  unfold wp_X5_otherwise at hw
  refine gw_iload_n dX5_otherwise_0 rfl rfl ?_
  refine gw_iconst dX5_otherwise_1 ic_0 ?_
  refine gw_bipush dX5_otherwise_2 bp_60 ?_
  refine gw_callSi (As := [.int p1, .int (0 : Int32), .int (60 : Int32)]) (rest := []) rfl (gc_X5_outside  hw) mX5_outside lmX5_44 rfl rfl ⟨Nat.le_of_ble_eq_true rfl, Nat.le_of_ble_eq_true rfl⟩ (Nat.le_of_ble_eq_true rfl) dX5_otherwise_4 (fun r_2 h_1 hw => ?_)
  refine gw_istore_n (ls' := [some (.ref (ad 0)), some (.int p1), some (.int p2), some (.int r_2), none, none, none, none, none]) dX5_otherwise_7 rfl (Nat.le_of_ble_eq_true rfl) rfl ?_
  refine gw_iload_n dX5_otherwise_8 rfl rfl ?_
  refine gw_if_ne (tgt := 22) dX5_otherwise_9 (by decide) (fun c_3 => ?_) (fun c_3 => ?_)
  · have hw := hw.1 c_3
    exact tk_X5_otherwise_22   r_2 h_1 hw
  · have hw := hw.2 c_3
    refine gw_iload_n dX5_otherwise_12 rfl rfl ?_
    refine gw_callSi (As := [.int p2]) (rest := []) rfl (gc_X5_isNeither  hw) mX5_isNeither lmX5_172 rfl rfl ⟨Nat.le_of_ble_eq_true rfl, Nat.le_of_ble_eq_true rfl⟩ (Nat.le_of_ble_eq_true rfl) dX5_otherwise_13 (fun r_25 h_24 hw => ?_)
    refine gw_if_eq (tgt := 22) dX5_otherwise_16 (by decide) (fun c_26 => ?_) (fun c_26 => ?_)
    · have hw := hw.1 c_26
      exact tk_X5_otherwise_22   r_2 h_24 hw
    · have hw := hw.2 c_26
      refine gw_bipush dX5_otherwise_19 bp_m2 ?_
      refine gw_istore_n (ls' := [some (.ref (ad 0)), some (.int p1), some (.int p2), some (.int (-2 : Int32)), none, none, none, none, none]) dX5_otherwise_21 rfl (Nat.le_of_ble_eq_true rfl) rfl ?_
      exact tk_X5_otherwise_22   (-2 : Int32) h_24 hw
def wk_X5_remedy_29 (p1 : Int32) (p2 : Int32)  (Q : Int32 → gw_H → Prop) : gw_H → Prop :=
  fun h => (wp_X5_refuse h (-2 : Int32) (fun r_6 h_5 => Q r_6 h_5))
set_option maxRecDepth 100000 in
set_option maxHeartbeats 4000000 in
theorem tk_X5_remedy_29 {l : Launch} {ad : Nat → Nat} {X : gw_X} {p1 : Int32} {p2 : Int32}  {Q : Int32 → gw_H → Prop}    (h : gw_H) (hw : wk_X5_remedy_29 p1 p2  Q h) : gw_G l vC ad cX5_remedy RX5 3 (some .int) 4 88 Q X h 29 [some (.ref (ad 0)), some (.int p1), some (.int p2)] [] := by
  unfold wk_X5_remedy_29 at hw
  refine gw_aload_n dX5_remedy_29 rfl rfl ?_
  refine gw_bipush dX5_remedy_30 bp_m2 ?_
  refine gw_callVi (As := [.int (-2 : Int32)]) (rest := []) rfl (gc_X5_refuse  hw) mX5_refuse lmX5_48 oX5 clX5 rfl rfl ⟨Nat.le_of_ble_eq_true rfl, Nat.le_of_ble_eq_true rfl⟩ (Nat.le_of_ble_eq_true rfl) dX5_remedy_32 (fun r_6 h_5 hw => ?_)
  exact gw_ireturn (ty := .int) hw rfl rfl dX5_remedy_35
def wk_X5_remedy_62 (p1 : Int32) (p2 : Int32)  (Q : Int32 → gw_H → Prop) : gw_H → Prop :=
  fun h => (wp_X1_treat h 1 p1 p2 (fun _ h_9 => (wp_X5_at h_9 (15) 6 p1 (fun r_11 h_10 => Q r_11 h_10))))
set_option maxRecDepth 100000 in
set_option maxHeartbeats 4000000 in
theorem tk_X5_remedy_62 {l : Launch} {ad : Nat → Nat} {X : gw_X} {p1 : Int32} {p2 : Int32}  {Q : Int32 → gw_H → Prop}    (h : gw_H) (hw : wk_X5_remedy_62 p1 p2  Q h) : gw_G l vC ad cX5_remedy RX5 3 (some .int) 4 88 Q X h 62 [some (.ref (ad 0)), some (.int p1), some (.int p2)] [] := by
  unfold wk_X5_remedy_62 at hw
  refine gw_aload_n dX5_remedy_62 rfl rfl ?_
  refine gw_getf (k := 0) (v := .ref (ad 1)) oX5 clX5 inUX5 (Nat.le_of_ble_eq_true rfl) rfl lfX5_10 rfl dX5_remedy_63 ?_
  refine gw_getfN (k := 2) (v := .ref (ad 10)) (oX2 hb1) clX2 inUX2 (Nat.le_of_ble_eq_true rfl) rfl lfX5_96 rfl dX5_remedy_66 ?_
  refine gw_iload_n dX5_remedy_69 rfl rfl ?_
  refine gw_iload_n dX5_remedy_70 rfl rfl ?_
  refine gw_callVv (As := [.int p1, .int p2]) (rest := []) rfl (gc_X1_treat hb1 hw) mX1_treat lmX5_162 (oX1 hb1) clX1 rfl rfl ⟨Nat.le_of_ble_eq_true rfl, Nat.le_of_ble_eq_true rfl⟩ (Nat.le_of_ble_eq_true rfl) dX5_remedy_71 (fun h_9 hw => ?_)
  refine gw_aload_n dX5_remedy_74 rfl rfl ?_
  refine gw_getf (k := 0) (v := .ref (ad 1)) oX5 clX5 inUX5 (Nat.le_of_ble_eq_true rfl) rfl lfX5_10 rfl dX5_remedy_75 ?_
  refine gw_getfN (k := 2) (v := .ref (ad 10)) (oX2 hb1) clX2 inUX2 (Nat.le_of_ble_eq_true rfl) rfl lfX5_96 rfl dX5_remedy_78 ?_
  refine gw_getfN (k := 4) (v := .ref (ad 15)) (oX1 hb1) clX1 inUX1 (Nat.le_of_ble_eq_true rfl) rfl lfX5_116 rfl dX5_remedy_81 ?_
  refine gw_iload_n dX5_remedy_84 rfl rfl ?_
  refine gw_callSi (As := [.ref (ad 15), .int p1]) (rest := []) rfl (gc_X5_at (ar_14 hb1) hw) mX5_at lmX5_83 rfl rfl ⟨Nat.le_of_ble_eq_true rfl, Nat.le_of_ble_eq_true rfl⟩ (Nat.le_of_ble_eq_true rfl) dX5_remedy_85 (fun r_11 h_10 hw => ?_)
  exact gw_ireturn (ty := .int) hw rfl rfl dX5_remedy_88
def wp_X5_remedy (h : gw_H) (p1 : Int32) (p2 : Int32) (Q : Int32 → gw_H → Prop) : Prop :=
  (wp_X1_has h 1 p1 (fun r_2 h_1 => ((¬ r_2 = 0 → ((p2 < 0 → (wk_X5_remedy_29 p1 p2  Q h_1)) ∧ (¬ p2 < 0 → ((p2 < (3 : Int32) → ((p2 = (2 : Int32) → (wk_X5_remedy_62 p1 p2  Q h_1)) ∧ (¬ p2 = (2 : Int32) → (wp_X1_hasSong h_1 1 p1 (fun r_13 h_12 => ((¬ r_13 = 0 → (wk_X5_remedy_62 p1 p2  Q h_12)) ∧ (r_13 = 0 → (wp_X5_refuse h_12 (-3 : Int32) (fun r_16 h_15 => Q r_16 h_15))))))))) ∧ (¬ p2 < (3 : Int32) → (wk_X5_remedy_29 p1 p2  Q h_1)))))) ∧ (r_2 = 0 → (wp_X5_refuse h_1 (-1 : Int32) (fun r_18 h_17 => Q r_18 h_17))))))
set_option maxRecDepth 100000 in
set_option maxHeartbeats 4000000 in
theorem gc_X5_remedy {l : Launch} {ad : Nat → Nat} {h : gw_H} {p1 : Int32} {p2 : Int32} {Q : Int32 → gw_H → Prop}  (hw : wp_X5_remedy h p1 p2 Q) : gw_C l yX5_remedy cX5_remedy 3 (some .int) 4 88 vC ad [.ref (ad 0), .int p1, .int p2] h Q := by
  refine gw_entry (own := RX5) [some (.ref (ad 0)), some (.int p1), some (.int p2)] pl_X5 rfl rfl (Nat.le_of_ble_eq_true rfl) rfl (fun X => ?_)
  unfold wp_X5_remedy at hw
  refine gw_aload_n dX5_remedy_0 rfl rfl ?_
  refine gw_getf (k := 0) (v := .ref (ad 1)) oX5 clX5 inUX5 (Nat.le_of_ble_eq_true rfl) rfl lfX5_10 rfl dX5_remedy_1 ?_
  refine gw_getfN (k := 2) (v := .ref (ad 10)) (oX2 hb1) clX2 inUX2 (Nat.le_of_ble_eq_true rfl) rfl lfX5_96 rfl dX5_remedy_4 ?_
  refine gw_iload_n dX5_remedy_7 rfl rfl ?_
  refine gw_callVi (As := [.int p1]) (rest := []) rfl (gc_X1_has hb1 hw) mX1_has lmX5_105 (oX1 hb1) clX1 rfl rfl ⟨Nat.le_of_ble_eq_true rfl, Nat.le_of_ble_eq_true rfl⟩ (Nat.le_of_ble_eq_true rfl) dX5_remedy_8 (fun r_2 h_1 hw => ?_)
  refine gw_if_ne (tgt := 20) dX5_remedy_11 (by decide) (fun c_3 => ?_) (fun c_3 => ?_)
  · have hw := hw.1 c_3
    refine gw_iload_n dX5_remedy_20 rfl rfl ?_
    refine gw_if_lt (tgt := 29) dX5_remedy_21 (by decide) (fun c_4 => ?_) (fun c_4 => ?_)
    · have hw := hw.1 c_4
      exact tk_X5_remedy_29   h_1 hw
    · have hw := hw.2 c_4
      refine gw_iload_n dX5_remedy_24 rfl rfl ?_
      refine gw_iconst dX5_remedy_25 ic_3 ?_
      refine gw_icmp_lt (tgt := 36) dX5_remedy_26 (by decide) (fun c_7 => ?_) (fun c_7 => ?_)
      · have hw := hw.1 c_7
        refine gw_iload_n dX5_remedy_36 rfl rfl ?_
        refine gw_iconst dX5_remedy_37 ic_2 ?_
        refine gw_icmp_eq (tgt := 62) dX5_remedy_38 (by decide) (fun c_8 => ?_) (fun c_8 => ?_)
        · have hw := hw.1 c_8
          exact tk_X5_remedy_62   h_1 hw
        · have hw := hw.2 c_8
          refine gw_aload_n dX5_remedy_41 rfl rfl ?_
          refine gw_getf (k := 0) (v := .ref (ad 1)) oX5 clX5 inUX5 (Nat.le_of_ble_eq_true rfl) rfl lfX5_10 rfl dX5_remedy_42 ?_
          refine gw_getfN (k := 2) (v := .ref (ad 10)) (oX2 hb1) clX2 inUX2 (Nat.le_of_ble_eq_true rfl) rfl lfX5_96 rfl dX5_remedy_45 ?_
          refine gw_iload_n dX5_remedy_48 rfl rfl ?_
          refine gw_callVi (As := [.int p1]) (rest := []) rfl (gc_X1_hasSong hb1 hw) mX1_hasSong lmX5_159 (oX1 hb1) clX1 rfl rfl ⟨Nat.le_of_ble_eq_true rfl, Nat.le_of_ble_eq_true rfl⟩ (Nat.le_of_ble_eq_true rfl) dX5_remedy_49 (fun r_13 h_12 hw => ?_)
          refine gw_if_ne (tgt := 62) dX5_remedy_52 (by decide) (fun c_14 => ?_) (fun c_14 => ?_)
          · have hw := hw.1 c_14
            exact tk_X5_remedy_62   h_12 hw
          · have hw := hw.2 c_14
            refine gw_aload_n dX5_remedy_55 rfl rfl ?_
            refine gw_bipush dX5_remedy_56 bp_m3 ?_
            refine gw_callVi (As := [.int (-3 : Int32)]) (rest := []) rfl (gc_X5_refuse  hw) mX5_refuse lmX5_48 oX5 clX5 rfl rfl ⟨Nat.le_of_ble_eq_true rfl, Nat.le_of_ble_eq_true rfl⟩ (Nat.le_of_ble_eq_true rfl) dX5_remedy_58 (fun r_16 h_15 hw => ?_)
            exact gw_ireturn (ty := .int) hw rfl rfl dX5_remedy_61
      · have hw := hw.2 c_7
        exact tk_X5_remedy_29   h_1 hw
  · have hw := hw.2 c_3
    refine gw_aload_n dX5_remedy_14 rfl rfl ?_
    refine gw_iconst dX5_remedy_15 ic_m1 ?_
    refine gw_callVi (As := [.int (-1 : Int32)]) (rest := []) rfl (gc_X5_refuse  hw) mX5_refuse lmX5_48 oX5 clX5 rfl rfl ⟨Nat.le_of_ble_eq_true rfl, Nat.le_of_ble_eq_true rfl⟩ (Nat.le_of_ble_eq_true rfl) dX5_remedy_16 (fun r_18 h_17 hw => ?_)
    exact gw_ireturn (ty := .int) hw rfl rfl dX5_remedy_19
def wk_X5_rid_115 (p1 : Int32) (p2 : Int32) (K65 : Int32 → Int32 → Int32 → gw_H → Prop) (Q : Int32 → gw_H → Prop) : Int32 → Int32 → Int32 → gw_H → Prop :=
  fun x3 x4 x5 h => (K65 x3 x4 (x5 + (1 : Int32)) h)
set_option maxRecDepth 100000 in
set_option maxHeartbeats 4000000 in
theorem tk_X5_rid_115 {l : Launch} {ad : Nat → Nat} {X : gw_X} {p1 : Int32} {p2 : Int32} {K65 : Int32 → Int32 → Int32 → gw_H → Prop} {Q : Int32 → gw_H → Prop}  (hK65 : ∀ (y3 : Int32) (y4 : Int32) (y5 : Int32) (h : gw_H), K65 y3 y4 y5 h → gw_G l vC ad cX5_rid RX5 7 (some .int) 5 124 Q X h 65 [some (.ref (ad 0)), some (.int p1), some (.int p2), some (.int y3), some (.int y4), some (.int y5), none] []) (x3 : Int32) (x4 : Int32) (x5 : Int32) (h : gw_H) (hw : wk_X5_rid_115 p1 p2 K65 Q x3 x4 x5 h) : gw_G l vC ad cX5_rid RX5 7 (some .int) 5 124 Q X h 115 [some (.ref (ad 0)), some (.int p1), some (.int p2), some (.int x3), some (.int x4), some (.int x5), none] [] := by
  unfold wk_X5_rid_115 at hw
  refine gw_iinc (ls' := [some (.ref (ad 0)), some (.int p1), some (.int p2), some (.int x3), some (.int x4), some (.int (x5 + (1 : Int32))), none]) dX5_rid_115 rfl (congrArg (fun z => x5 + z) ic_1) (Nat.le_of_ble_eq_true rfl) rfl ?_
  refine gw_goto (tgt := 65) dX5_rid_118 (by decide) ?_
  exact hK65 x3 x4 (x5 + (1 : Int32)) h hw
def wl_X5_rid_65 (p1 : Int32) (p2 : Int32)  (Q : Int32 → gw_H → Prop) : Nat → Int32 → Int32 → Int32 → gw_H → Prop
  | 0 => fun _ _ _ _ => False
  | n + 1 => fun x3 x4 x5 h => (((3 : Int32) < x5 → ((p2 = 0 → Q x4 h) ∧ (¬ p2 = 0 → ((¬ x4 = (-9 : Int32) → Q x3 h) ∧ (x4 = (-9 : Int32) → Q x4 h))))) ∧ (¬ (3 : Int32) < x5 → (wp_X2_takeAs h 24 1 (fun _ h_13 => (wp_X1_treat h_13 24 p1 x5 (fun _ h_14 => (wp_X5_hoursUntilRid h_14 p1 (fun r_16 h_15 => ((x3 ≤ r_16 → (wk_X5_rid_115 p1 p2 (wl_X5_rid_65 p1 p2  Q n) Q x3 x4 x5 h_15)) ∧ (¬ x3 ≤ r_16 → (wk_X5_rid_115 p1 p2 (wl_X5_rid_65 p1 p2  Q n) Q r_16 x5 x5 h_15)))))))))))
set_option maxRecDepth 100000 in
set_option maxHeartbeats 4000000 in
theorem tl_X5_rid_65 {l : Launch} {ad : Nat → Nat} {X : gw_X} {p1 : Int32} {p2 : Int32}  {Q : Int32 → gw_H → Prop}   : ∀ (n : Nat) (x3 : Int32) (x4 : Int32) (x5 : Int32) (h : gw_H), wl_X5_rid_65 p1 p2  Q n x3 x4 x5 h → gw_G l vC ad cX5_rid RX5 7 (some .int) 5 124 Q X h 65 [some (.ref (ad 0)), some (.int p1), some (.int p2), some (.int x3), some (.int x4), some (.int x5), none] [] := by
  intro n
  induction n with
  | zero => intro x3 x4 x5 h hw; exact hw.elim
  | succ n ih =>
    intro x3 x4 x5 h hw
    unfold wl_X5_rid_65 at hw
    refine gw_iload dX5_rid_65 rfl ?_
    refine gw_iconst dX5_rid_67 ic_3 ?_
    refine gw_icmp_gt (tgt := 121) dX5_rid_68 (by decide) (fun c_10 => ?_) (fun c_10 => ?_)
    · have hw := hw.1 c_10
      refine gw_iload_n dX5_rid_121 rfl rfl ?_
      refine gw_if_eq (tgt := 132) dX5_rid_122 (by decide) (fun c_11 => ?_) (fun c_11 => ?_)
      · have hw := hw.1 c_11
        refine gw_iload dX5_rid_132 rfl ?_
        refine gw_goto (tgt := 138) dX5_rid_134 (by decide) ?_
        exact gw_ireturn (ty := .int) hw rfl rfl dX5_rid_138
      · have hw := hw.2 c_11
        refine gw_iload dX5_rid_125 rfl ?_
        refine gw_bipush dX5_rid_127 bp_m9 ?_
        refine gw_icmp_ne (tgt := 137) dX5_rid_129 (by decide) (fun c_12 => ?_) (fun c_12 => ?_)
        · have hw := hw.1 c_12
          refine gw_iload_n dX5_rid_137 rfl rfl ?_
          exact gw_ireturn (ty := .int) hw rfl rfl dX5_rid_138
        · have hw := hw.2 c_12
          refine gw_iload dX5_rid_132 rfl ?_
          refine gw_goto (tgt := 138) dX5_rid_134 (by decide) ?_
          exact gw_ireturn (ty := .int) hw rfl rfl dX5_rid_138
    · have hw := hw.2 c_10
      refine gw_aload_n dX5_rid_71 rfl rfl ?_
      refine gw_getf (k := 1) (v := .ref (ad 24)) oX5 clX5 inUX5 (Nat.le_of_ble_eq_true rfl) rfl lfX5_16 rfl dX5_rid_72 ?_
      refine gw_aload_n dX5_rid_75 rfl rfl ?_
      refine gw_getf (k := 0) (v := .ref (ad 1)) oX5 clX5 inUX5 (Nat.le_of_ble_eq_true rfl) rfl lfX5_10 rfl dX5_rid_76 ?_
      refine gw_callVv (As := [.ref (ad 1)]) (rest := []) rfl (gc_X2_takeAs hb24 hb1 hw) mX2_takeAs lmX5_181 (oX2 hb24) clX2 rfl rfl ⟨Nat.le_of_ble_eq_true rfl, Nat.le_of_ble_eq_true rfl⟩ (Nat.le_of_ble_eq_true rfl) dX5_rid_79 (fun h_13 hw => ?_)
      refine gw_aload_n dX5_rid_82 rfl rfl ?_
      refine gw_getf (k := 1) (v := .ref (ad 24)) oX5 clX5 inUX5 (Nat.le_of_ble_eq_true rfl) rfl lfX5_16 rfl dX5_rid_83 ?_
      refine gw_getfN (k := 2) (v := .ref (ad 33)) (oX2 hb24) clX2 inUX2 (Nat.le_of_ble_eq_true rfl) rfl lfX5_96 rfl dX5_rid_86 ?_
      refine gw_iload_n dX5_rid_89 rfl rfl ?_
      refine gw_iload dX5_rid_90 rfl ?_
      refine gw_callVv (As := [.int p1, .int x5]) (rest := []) rfl (gc_X1_treat hb24 hw) mX1_treat lmX5_162 (oX1 hb24) clX1 rfl rfl ⟨Nat.le_of_ble_eq_true rfl, Nat.le_of_ble_eq_true rfl⟩ (Nat.le_of_ble_eq_true rfl) dX5_rid_92 (fun h_14 hw => ?_)
      refine gw_aload_n dX5_rid_95 rfl rfl ?_
      refine gw_iload_n dX5_rid_96 rfl rfl ?_
      refine gw_callVi (As := [.int p1]) (rest := []) rfl (gc_X5_hoursUntilRid  hw) mX5_hoursUntilRid lmX5_192 oX5 clX5 rfl rfl ⟨Nat.le_of_ble_eq_true rfl, Nat.le_of_ble_eq_true rfl⟩ (Nat.le_of_ble_eq_true rfl) dX5_rid_97 (fun r_16 h_15 hw => ?_)
      refine gw_istore (ls' := [some (.ref (ad 0)), some (.int p1), some (.int p2), some (.int x3), some (.int x4), some (.int x5), some (.int r_16)]) dX5_rid_100 (Nat.le_of_ble_eq_true rfl) rfl ?_
      refine gw_iload dX5_rid_102 rfl ?_
      refine gw_iload_n dX5_rid_104 rfl rfl ?_
      refine gw_icmp_ge (tgt := 115) dX5_rid_105 (by decide) (fun c_17 => ?_) (fun c_17 => ?_)
      · have hw := hw.1 c_17
        refine gw_forget (ls' := [some (.ref (ad 0)), some (.int p1), some (.int p2), some (.int x3), some (.int x4), some (.int x5), none]) (gw_sub.s (gw_sub.s (gw_sub.s (gw_sub.s (gw_sub.s (gw_sub.s (gw_sub.n gw_sub.z))))))) ?_
        exact tk_X5_rid_115   ih x3 x4 x5 h_15 hw
      · have hw := hw.2 c_17
        refine gw_iload dX5_rid_108 rfl ?_
        refine gw_istore_n (ls' := [some (.ref (ad 0)), some (.int p1), some (.int p2), some (.int r_16), some (.int x4), some (.int x5), some (.int r_16)]) dX5_rid_110 rfl (Nat.le_of_ble_eq_true rfl) rfl ?_
        refine gw_iload dX5_rid_111 rfl ?_
        refine gw_istore (ls' := [some (.ref (ad 0)), some (.int p1), some (.int p2), some (.int r_16), some (.int x5), some (.int x5), some (.int r_16)]) dX5_rid_113 (Nat.le_of_ble_eq_true rfl) rfl ?_
        refine gw_forget (ls' := [some (.ref (ad 0)), some (.int p1), some (.int p2), some (.int r_16), some (.int x5), some (.int x5), none]) (gw_sub.s (gw_sub.s (gw_sub.s (gw_sub.s (gw_sub.s (gw_sub.s (gw_sub.n gw_sub.z))))))) ?_
        exact tk_X5_rid_115   ih r_16 x5 x5 h_15 hw
def wp_X5_rid (h : gw_H) (p1 : Int32) (p2 : Int32) (Q : Int32 → gw_H → Prop) : Prop :=
  (wp_X1_has h 1 p1 (fun r_2 h_1 => ((¬ r_2 = 0 → (wp_X5_isNeither h_1 p2 (fun r_5 h_4 => ((r_5 = 0 → (wp_X1_hasSong h_4 1 p1 (fun r_8 h_7 => ((¬ r_8 = 0 → (∃ n_18 : Nat, wl_X5_rid_65 p1 p2  Q n_18 (61 : Int32) (-9 : Int32) (0 : Int32) h_7)) ∧ (r_8 = 0 → (wp_X5_refuse h_7 (-3 : Int32) (fun r_20 h_19 => Q r_20 h_19))))))) ∧ (¬ r_5 = 0 → (wp_X5_refuse h_4 (-2 : Int32) (fun r_22 h_21 => Q r_22 h_21))))))) ∧ (r_2 = 0 → (wp_X5_refuse h_1 (-1 : Int32) (fun r_24 h_23 => Q r_24 h_23))))))
set_option maxRecDepth 100000 in
set_option maxHeartbeats 4000000 in
theorem gc_X5_rid {l : Launch} {ad : Nat → Nat} {h : gw_H} {p1 : Int32} {p2 : Int32} {Q : Int32 → gw_H → Prop}  (hw : wp_X5_rid h p1 p2 Q) : gw_C l yX5_rid cX5_rid 7 (some .int) 5 124 vC ad [.ref (ad 0), .int p1, .int p2] h Q := by
  refine gw_entry (own := RX5) [some (.ref (ad 0)), some (.int p1), some (.int p2), none, none, none, none] pl_X5 rfl rfl (Nat.le_of_ble_eq_true rfl) rfl (fun X => ?_)
  unfold wp_X5_rid at hw
  refine gw_aload_n dX5_rid_0 rfl rfl ?_
  refine gw_getf (k := 0) (v := .ref (ad 1)) oX5 clX5 inUX5 (Nat.le_of_ble_eq_true rfl) rfl lfX5_10 rfl dX5_rid_1 ?_
  refine gw_getfN (k := 2) (v := .ref (ad 10)) (oX2 hb1) clX2 inUX2 (Nat.le_of_ble_eq_true rfl) rfl lfX5_96 rfl dX5_rid_4 ?_
  refine gw_iload_n dX5_rid_7 rfl rfl ?_
  refine gw_callVi (As := [.int p1]) (rest := []) rfl (gc_X1_has hb1 hw) mX1_has lmX5_105 (oX1 hb1) clX1 rfl rfl ⟨Nat.le_of_ble_eq_true rfl, Nat.le_of_ble_eq_true rfl⟩ (Nat.le_of_ble_eq_true rfl) dX5_rid_8 (fun r_2 h_1 hw => ?_)
  refine gw_if_ne (tgt := 20) dX5_rid_11 (by decide) (fun c_3 => ?_) (fun c_3 => ?_)
  · have hw := hw.1 c_3
    refine gw_iload_n dX5_rid_20 rfl rfl ?_
    refine gw_callSi (As := [.int p2]) (rest := []) rfl (gc_X5_isNeither  hw) mX5_isNeither lmX5_172 rfl rfl ⟨Nat.le_of_ble_eq_true rfl, Nat.le_of_ble_eq_true rfl⟩ (Nat.le_of_ble_eq_true rfl) dX5_rid_21 (fun r_5 h_4 hw => ?_)
    refine gw_if_eq (tgt := 34) dX5_rid_24 (by decide) (fun c_6 => ?_) (fun c_6 => ?_)
    · have hw := hw.1 c_6
      refine gw_aload_n dX5_rid_34 rfl rfl ?_
      refine gw_getf (k := 0) (v := .ref (ad 1)) oX5 clX5 inUX5 (Nat.le_of_ble_eq_true rfl) rfl lfX5_10 rfl dX5_rid_35 ?_
      refine gw_getfN (k := 2) (v := .ref (ad 10)) (oX2 hb1) clX2 inUX2 (Nat.le_of_ble_eq_true rfl) rfl lfX5_96 rfl dX5_rid_38 ?_
      refine gw_iload_n dX5_rid_41 rfl rfl ?_
      refine gw_callVi (As := [.int p1]) (rest := []) rfl (gc_X1_hasSong hb1 hw) mX1_hasSong lmX5_159 (oX1 hb1) clX1 rfl rfl ⟨Nat.le_of_ble_eq_true rfl, Nat.le_of_ble_eq_true rfl⟩ (Nat.le_of_ble_eq_true rfl) dX5_rid_42 (fun r_8 h_7 hw => ?_)
      refine gw_if_ne (tgt := 55) dX5_rid_45 (by decide) (fun c_9 => ?_) (fun c_9 => ?_)
      · have hw := hw.1 c_9
        refine gw_bipush dX5_rid_55 bp_61 ?_
        refine gw_istore_n (ls' := [some (.ref (ad 0)), some (.int p1), some (.int p2), some (.int (61 : Int32)), none, none, none]) dX5_rid_57 rfl (Nat.le_of_ble_eq_true rfl) rfl ?_
        refine gw_bipush dX5_rid_58 bp_m9 ?_
        refine gw_istore (ls' := [some (.ref (ad 0)), some (.int p1), some (.int p2), some (.int (61 : Int32)), some (.int (-9 : Int32)), none, none]) dX5_rid_60 (Nat.le_of_ble_eq_true rfl) rfl ?_
        refine gw_iconst dX5_rid_62 ic_0 ?_
        refine gw_istore (ls' := [some (.ref (ad 0)), some (.int p1), some (.int p2), some (.int (61 : Int32)), some (.int (-9 : Int32)), some (.int (0 : Int32)), none]) dX5_rid_63 (Nat.le_of_ble_eq_true rfl) rfl ?_
        obtain ⟨n_18, hw⟩ := hw
        exact tl_X5_rid_65   n_18 (61 : Int32) (-9 : Int32) (0 : Int32) h_7 hw
      · have hw := hw.2 c_9
        refine gw_aload_n dX5_rid_48 rfl rfl ?_
        refine gw_bipush dX5_rid_49 bp_m3 ?_
        refine gw_callVi (As := [.int (-3 : Int32)]) (rest := []) rfl (gc_X5_refuse  hw) mX5_refuse lmX5_48 oX5 clX5 rfl rfl ⟨Nat.le_of_ble_eq_true rfl, Nat.le_of_ble_eq_true rfl⟩ (Nat.le_of_ble_eq_true rfl) dX5_rid_51 (fun r_20 h_19 hw => ?_)
        exact gw_ireturn (ty := .int) hw rfl rfl dX5_rid_54
    · have hw := hw.2 c_6
      refine gw_aload_n dX5_rid_27 rfl rfl ?_
      refine gw_bipush dX5_rid_28 bp_m2 ?_
      refine gw_callVi (As := [.int (-2 : Int32)]) (rest := []) rfl (gc_X5_refuse  hw) mX5_refuse lmX5_48 oX5 clX5 rfl rfl ⟨Nat.le_of_ble_eq_true rfl, Nat.le_of_ble_eq_true rfl⟩ (Nat.le_of_ble_eq_true rfl) dX5_rid_30 (fun r_22 h_21 hw => ?_)
      exact gw_ireturn (ty := .int) hw rfl rfl dX5_rid_33
  · have hw := hw.2 c_3
    refine gw_aload_n dX5_rid_14 rfl rfl ?_
    refine gw_iconst dX5_rid_15 ic_m1 ?_
    refine gw_callVi (As := [.int (-1 : Int32)]) (rest := []) rfl (gc_X5_refuse  hw) mX5_refuse lmX5_48 oX5 clX5 rfl rfl ⟨Nat.le_of_ble_eq_true rfl, Nat.le_of_ble_eq_true rfl⟩ (Nat.le_of_ble_eq_true rfl) dX5_rid_16 (fun r_24 h_23 hw => ?_)
    exact gw_ireturn (ty := .int) hw rfl rfl dX5_rid_19
def wp_X5_row (h : gw_H) (p1 : Int32) (Q : Int32 → gw_H → Prop) : Prop :=
  (wp_X5_outside h p1 (0 : Int32) (9 : Int32) (fun r_2 h_1 => ((r_2 = 0 → (((h_1 0 6) < (6 : Int32) → (wp_X5_put h_1 (72) 6 (h_1 0 6) p1 (fun _ h_5 => Q ((gw_up h_5 0 6 ((h_5 0 6) + (1 : Int32))) 0 6) (gw_up h_5 0 6 ((h_5 0 6) + (1 : Int32)))))) ∧ (¬ (h_1 0 6) < (6 : Int32) → (wp_X5_refuse h_1 (-6 : Int32) (fun r_7 h_6 => Q r_7 h_6))))) ∧ (¬ r_2 = 0 → (wp_X5_refuse h_1 r_2 (fun r_9 h_8 => Q r_9 h_8))))))
set_option maxRecDepth 100000 in
set_option maxHeartbeats 4000000 in
theorem gc_X5_row {l : Launch} {ad : Nat → Nat} {h : gw_H} {p1 : Int32} {Q : Int32 → gw_H → Prop}  (hw : wp_X5_row h p1 Q) : gw_C l yX5_row cX5_row 3 (some .int) 2 43 vC ad [.ref (ad 0), .int p1] h Q := by
  refine gw_entry (own := RX5) [some (.ref (ad 0)), some (.int p1), none] pl_X5 rfl rfl (Nat.le_of_ble_eq_true rfl) rfl (fun X => ?_)
  unfold wp_X5_row at hw
  refine gw_iload_n dX5_row_0 rfl rfl ?_
  refine gw_iconst dX5_row_1 ic_0 ?_
  refine gw_bipush dX5_row_2 bp_9 ?_
  refine gw_callSi (As := [.int p1, .int (0 : Int32), .int (9 : Int32)]) (rest := []) rfl (gc_X5_outside  hw) mX5_outside lmX5_44 rfl rfl ⟨Nat.le_of_ble_eq_true rfl, Nat.le_of_ble_eq_true rfl⟩ (Nat.le_of_ble_eq_true rfl) dX5_row_4 (fun r_2 h_1 hw => ?_)
  refine gw_istore_n (ls' := [some (.ref (ad 0)), some (.int p1), some (.int r_2)]) dX5_row_7 rfl (Nat.le_of_ble_eq_true rfl) rfl ?_
  refine gw_iload_n dX5_row_8 rfl rfl ?_
  refine gw_if_eq (tgt := 18) dX5_row_9 (by decide) (fun c_3 => ?_) (fun c_3 => ?_)
  · have hw := hw.1 c_3
    refine gw_aload_n dX5_row_18 rfl rfl ?_
    refine gw_getf (k := 6) (v := .int (h_1 0 6)) oX5 clX5 inUX5 (Nat.le_of_ble_eq_true rfl) rfl lfX5_37 rfl dX5_row_19 ?_
    refine gw_bipush dX5_row_22 bp_6 ?_
    refine gw_icmp_lt (tgt := 34) dX5_row_24 (by decide) (fun c_4 => ?_) (fun c_4 => ?_)
    · have hw := hw.1 c_4
      refine gw_aload_n dX5_row_34 rfl rfl ?_
      refine gw_getf (k := 5) (v := .ref (ad 72)) oX5 clX5 inUX5 (Nat.le_of_ble_eq_true rfl) rfl lfX5_33 rfl dX5_row_35 ?_
      refine gw_aload_n dX5_row_38 rfl rfl ?_
      refine gw_getf (k := 6) (v := .int (h_1 0 6)) oX5 clX5 inUX5 (Nat.le_of_ble_eq_true rfl) rfl lfX5_37 rfl dX5_row_39 ?_
      refine gw_iload_n dX5_row_42 rfl rfl ?_
      refine gw_callSv (As := [.ref (ad 72), .int (h_1 0 6), .int p1]) (rest := []) rfl (gc_X5_put at_72 hw) mX5_put lmX5_151 rfl rfl ⟨Nat.le_of_ble_eq_true rfl, Nat.le_of_ble_eq_true rfl⟩ (Nat.le_of_ble_eq_true rfl) dX5_row_43 (fun h_5 hw => ?_)
      refine gw_aload_n dX5_row_46 rfl rfl ?_
      refine gw_dup dX5_row_47 rfl ?_
      refine gw_getf (k := 6) (v := .int (h_5 0 6)) oX5 clX5 inUX5 (Nat.le_of_ble_eq_true rfl) rfl lfX5_37 rfl dX5_row_48 ?_
      refine gw_iconst dX5_row_51 ic_1 ?_
      refine gw_iadd dX5_row_52 ?_
      refine gw_putf (k := 6) (ty := .int) oX5 clX5 inUX5 tyX5_ok nmX5 (Nat.le_of_ble_eq_true rfl) rfl lfX5_37 (by decide +kernel) rfl rfl st_X5_6 dX5_row_53 ?_
      refine gw_aload_n dX5_row_56 rfl rfl ?_
      refine gw_getf (k := 6) (v := .int ((gw_up h_5 0 6 ((h_5 0 6) + (1 : Int32))) 0 6)) oX5 clX5 inUX5 (Nat.le_of_ble_eq_true rfl) rfl lfX5_37 rfl dX5_row_57 ?_
      exact gw_ireturn (ty := .int) hw rfl rfl dX5_row_60
    · have hw := hw.2 c_4
      refine gw_aload_n dX5_row_27 rfl rfl ?_
      refine gw_bipush dX5_row_28 bp_m6 ?_
      refine gw_callVi (As := [.int (-6 : Int32)]) (rest := []) rfl (gc_X5_refuse  hw) mX5_refuse lmX5_48 oX5 clX5 rfl rfl ⟨Nat.le_of_ble_eq_true rfl, Nat.le_of_ble_eq_true rfl⟩ (Nat.le_of_ble_eq_true rfl) dX5_row_30 (fun r_7 h_6 hw => ?_)
      exact gw_ireturn (ty := .int) hw rfl rfl dX5_row_33
  · have hw := hw.2 c_3
    refine gw_aload_n dX5_row_12 rfl rfl ?_
    refine gw_iload_n dX5_row_13 rfl rfl ?_
    refine gw_callVi (As := [.int r_2]) (rest := []) rfl (gc_X5_refuse  hw) mX5_refuse lmX5_48 oX5 clX5 rfl rfl ⟨Nat.le_of_ble_eq_true rfl, Nat.le_of_ble_eq_true rfl⟩ (Nat.le_of_ble_eq_true rfl) dX5_row_14 (fun r_9 h_8 hw => ?_)
    exact gw_ireturn (ty := .int) hw rfl rfl dX5_row_17
def wk_X5_seats_143 (p1 : Int32) (K42 : Int32 → Int32 → Int32 → gw_H → Prop) (K63 : Int32 → Int32 → Int32 → Int32 → gw_H → Prop) (Q : Int32 → gw_H → Prop) : Int32 → Int32 → Int32 → Int32 → gw_H → Prop :=
  fun x3 x4 x5 x6 h => (K63 x3 x4 x5 (x6 + (1 : Int32)) h)
set_option maxRecDepth 100000 in
set_option maxHeartbeats 4000000 in
theorem tk_X5_seats_143 {l : Launch} {ad : Nat → Nat} {X : gw_X} {p1 : Int32} {K42 : Int32 → Int32 → Int32 → gw_H → Prop} {K63 : Int32 → Int32 → Int32 → Int32 → gw_H → Prop} {Q : Int32 → gw_H → Prop}  (hK42 : ∀ (y3 : Int32) (y4 : Int32) (y5 : Int32) (h : gw_H), K42 y3 y4 y5 h → gw_G l vC ad cX5_seats RX5 8 (some .int) 6 145 Q X h 42 [some (.ref (ad 0)), some (.int p1), none, some (.int y3), some (.int y4), some (.int y5), none, none] []) (hK63 : ∀ (y3 : Int32) (y4 : Int32) (y5 : Int32) (y6 : Int32) (h : gw_H), K63 y3 y4 y5 y6 h → gw_G l vC ad cX5_seats RX5 8 (some .int) 6 145 Q X h 63 [some (.ref (ad 0)), some (.int p1), none, some (.int y3), some (.int y4), some (.int y5), some (.int y6), none] []) (x3 : Int32) (x4 : Int32) (x5 : Int32) (x6 : Int32) (h : gw_H) (hw : wk_X5_seats_143 p1 K42 K63 Q x3 x4 x5 x6 h) : gw_G l vC ad cX5_seats RX5 8 (some .int) 6 145 Q X h 143 [some (.ref (ad 0)), some (.int p1), none, some (.int x3), some (.int x4), some (.int x5), some (.int x6), none] [] := by
  unfold wk_X5_seats_143 at hw
  refine gw_iinc (ls' := [some (.ref (ad 0)), some (.int p1), none, some (.int x3), some (.int x4), some (.int x5), some (.int (x6 + (1 : Int32))), none]) dX5_seats_143 rfl (congrArg (fun z => x6 + z) ic_1) (Nat.le_of_ble_eq_true rfl) rfl ?_
  refine gw_goto (tgt := 63) dX5_seats_146 (by decide) ?_
  exact hK63 x3 x4 x5 (x6 + (1 : Int32)) h hw
def wl_X5_seats_63 (p1 : Int32) (K42 : Int32 → Int32 → Int32 → gw_H → Prop) (Q : Int32 → gw_H → Prop) : Nat → Int32 → Int32 → Int32 → Int32 → gw_H → Prop
  | 0 => fun _ _ _ _ _ => False
  | n + 1 => fun x3 x4 x5 x6 h => (((h 10 8) ≤ x6 → (K42 x3 x4 (x5 + (1 : Int32)) h)) ∧ (¬ (h 10 8) ≤ x6 → (wp_X2_takeAs h 24 1 (fun _ h_9 => (wp_X1_changePlaces h_9 24 x5 x6 (fun _ h_10 => (wp_X2_passHours h_10 24 p1 (fun _ h_11 => (wp_X1_holders h_11 24 (-1 : Int32) (fun r_13 h_12 => ((x3 ≤ r_13 → (wk_X5_seats_143 p1 K42 (wl_X5_seats_63 p1 K42 Q n) Q x3 x4 x5 x6 h_12)) ∧ (¬ x3 ≤ r_13 → (wk_X5_seats_143 p1 K42 (wl_X5_seats_63 p1 K42 Q n) Q r_13 (((10 : Int32) * x5) + x6) x5 x6 h_12)))))))))))))
set_option maxRecDepth 100000 in
set_option maxHeartbeats 4000000 in
theorem tl_X5_seats_63 {l : Launch} {ad : Nat → Nat} {X : gw_X} {p1 : Int32} {K42 : Int32 → Int32 → Int32 → gw_H → Prop} {Q : Int32 → gw_H → Prop}  (hK42 : ∀ (y3 : Int32) (y4 : Int32) (y5 : Int32) (h : gw_H), K42 y3 y4 y5 h → gw_G l vC ad cX5_seats RX5 8 (some .int) 6 145 Q X h 42 [some (.ref (ad 0)), some (.int p1), none, some (.int y3), some (.int y4), some (.int y5), none, none] []) : ∀ (n : Nat) (x3 : Int32) (x4 : Int32) (x5 : Int32) (x6 : Int32) (h : gw_H), wl_X5_seats_63 p1 K42 Q n x3 x4 x5 x6 h → gw_G l vC ad cX5_seats RX5 8 (some .int) 6 145 Q X h 63 [some (.ref (ad 0)), some (.int p1), none, some (.int x3), some (.int x4), some (.int x5), some (.int x6), none] [] := by
  intro n
  induction n with
  | zero => intro x3 x4 x5 x6 h hw; exact hw.elim
  | succ n ih =>
    intro x3 x4 x5 x6 h hw
    unfold wl_X5_seats_63 at hw
    refine gw_iload dX5_seats_63 rfl ?_
    refine gw_aload_n dX5_seats_65 rfl rfl ?_
    refine gw_getf (k := 0) (v := .ref (ad 1)) oX5 clX5 inUX5 (Nat.le_of_ble_eq_true rfl) rfl lfX5_10 rfl dX5_seats_66 ?_
    refine gw_getfN (k := 2) (v := .ref (ad 10)) (oX2 hb1) clX2 inUX2 (Nat.le_of_ble_eq_true rfl) rfl lfX5_96 rfl dX5_seats_69 ?_
    refine gw_getfN (k := 8) (v := .int (h 10 8)) (oX1 hb1) clX1 inUX1 (Nat.le_of_ble_eq_true rfl) rfl lfX5_202 rfl dX5_seats_72 ?_
    refine gw_icmp_ge (tgt := 149) dX5_seats_75 (by decide) (fun c_8 => ?_) (fun c_8 => ?_)
    · have hw := hw.1 c_8
      refine gw_iinc (ls' := [some (.ref (ad 0)), some (.int p1), none, some (.int x3), some (.int x4), some (.int (x5 + (1 : Int32))), some (.int x6), none]) dX5_seats_149 rfl (congrArg (fun z => x5 + z) ic_1) (Nat.le_of_ble_eq_true rfl) rfl ?_
      refine gw_goto (tgt := 42) dX5_seats_152 (by decide) ?_
      refine gw_forget (ls' := [some (.ref (ad 0)), some (.int p1), none, some (.int x3), some (.int x4), some (.int (x5 + (1 : Int32))), none, none]) (gw_sub.s (gw_sub.s (gw_sub.n (gw_sub.s (gw_sub.s (gw_sub.s (gw_sub.n (gw_sub.n gw_sub.z)))))))) ?_
      exact hK42 x3 x4 (x5 + (1 : Int32)) h hw
    · have hw := hw.2 c_8
      refine gw_aload_n dX5_seats_78 rfl rfl ?_
      refine gw_getf (k := 1) (v := .ref (ad 24)) oX5 clX5 inUX5 (Nat.le_of_ble_eq_true rfl) rfl lfX5_16 rfl dX5_seats_79 ?_
      refine gw_aload_n dX5_seats_82 rfl rfl ?_
      refine gw_getf (k := 0) (v := .ref (ad 1)) oX5 clX5 inUX5 (Nat.le_of_ble_eq_true rfl) rfl lfX5_10 rfl dX5_seats_83 ?_
      refine gw_callVv (As := [.ref (ad 1)]) (rest := []) rfl (gc_X2_takeAs hb24 hb1 hw) mX2_takeAs lmX5_181 (oX2 hb24) clX2 rfl rfl ⟨Nat.le_of_ble_eq_true rfl, Nat.le_of_ble_eq_true rfl⟩ (Nat.le_of_ble_eq_true rfl) dX5_seats_86 (fun h_9 hw => ?_)
      refine gw_aload_n dX5_seats_89 rfl rfl ?_
      refine gw_getf (k := 1) (v := .ref (ad 24)) oX5 clX5 inUX5 (Nat.le_of_ble_eq_true rfl) rfl lfX5_16 rfl dX5_seats_90 ?_
      refine gw_getfN (k := 2) (v := .ref (ad 33)) (oX2 hb24) clX2 inUX2 (Nat.le_of_ble_eq_true rfl) rfl lfX5_96 rfl dX5_seats_93 ?_
      refine gw_iload dX5_seats_96 rfl ?_
      refine gw_iload dX5_seats_98 rfl ?_
      refine gw_callVv (As := [.int x5, .int x6]) (rest := []) rfl (gc_X1_changePlaces hb24 hw) mX1_changePlaces lmX5_203 (oX1 hb24) clX1 rfl rfl ⟨Nat.le_of_ble_eq_true rfl, Nat.le_of_ble_eq_true rfl⟩ (Nat.le_of_ble_eq_true rfl) dX5_seats_100 (fun h_10 hw => ?_)
      refine gw_aload_n dX5_seats_103 rfl rfl ?_
      refine gw_getf (k := 1) (v := .ref (ad 24)) oX5 clX5 inUX5 (Nat.le_of_ble_eq_true rfl) rfl lfX5_16 rfl dX5_seats_104 ?_
      refine gw_iload_n dX5_seats_107 rfl rfl ?_
      refine gw_callVv (As := [.int p1]) (rest := []) rfl (gc_X2_passHours hb24 hw) mX2_passHours lmX5_199 (oX2 hb24) clX2 rfl rfl ⟨Nat.le_of_ble_eq_true rfl, Nat.le_of_ble_eq_true rfl⟩ (Nat.le_of_ble_eq_true rfl) dX5_seats_108 (fun h_11 hw => ?_)
      refine gw_aload_n dX5_seats_111 rfl rfl ?_
      refine gw_getf (k := 1) (v := .ref (ad 24)) oX5 clX5 inUX5 (Nat.le_of_ble_eq_true rfl) rfl lfX5_16 rfl dX5_seats_112 ?_
      refine gw_getfN (k := 2) (v := .ref (ad 33)) (oX2 hb24) clX2 inUX2 (Nat.le_of_ble_eq_true rfl) rfl lfX5_96 rfl dX5_seats_115 ?_
      refine gw_iconst dX5_seats_118 ic_m1 ?_
      refine gw_callVi (As := [.int (-1 : Int32)]) (rest := []) rfl (gc_X1_holders hb24 hw) mX1_holders lmX5_100 (oX1 hb24) clX1 rfl rfl ⟨Nat.le_of_ble_eq_true rfl, Nat.le_of_ble_eq_true rfl⟩ (Nat.le_of_ble_eq_true rfl) dX5_seats_119 (fun r_13 h_12 hw => ?_)
      refine gw_istore (ls' := [some (.ref (ad 0)), some (.int p1), none, some (.int x3), some (.int x4), some (.int x5), some (.int x6), some (.int r_13)]) dX5_seats_122 (Nat.le_of_ble_eq_true rfl) rfl ?_
      refine gw_iload dX5_seats_124 rfl ?_
      refine gw_iload_n dX5_seats_126 rfl rfl ?_
      refine gw_icmp_ge (tgt := 143) dX5_seats_127 (by decide) (fun c_14 => ?_) (fun c_14 => ?_)
      · have hw := hw.1 c_14
        refine gw_forget (ls' := [some (.ref (ad 0)), some (.int p1), none, some (.int x3), some (.int x4), some (.int x5), some (.int x6), none]) (gw_sub.s (gw_sub.s (gw_sub.n (gw_sub.s (gw_sub.s (gw_sub.s (gw_sub.s (gw_sub.n gw_sub.z)))))))) ?_
        exact tk_X5_seats_143  hK42  ih x3 x4 x5 x6 h_12 hw
      · have hw := hw.2 c_14
        refine gw_iload dX5_seats_130 rfl ?_
        refine gw_istore_n (ls' := [some (.ref (ad 0)), some (.int p1), none, some (.int r_13), some (.int x4), some (.int x5), some (.int x6), some (.int r_13)]) dX5_seats_132 rfl (Nat.le_of_ble_eq_true rfl) rfl ?_
        refine gw_bipush dX5_seats_133 bp_10 ?_
        refine gw_iload dX5_seats_135 rfl ?_
        refine gw_imul dX5_seats_137 ?_
        refine gw_iload dX5_seats_138 rfl ?_
        refine gw_iadd dX5_seats_140 ?_
        refine gw_istore (ls' := [some (.ref (ad 0)), some (.int p1), none, some (.int r_13), some (.int (((10 : Int32) * x5) + x6)), some (.int x5), some (.int x6), some (.int r_13)]) dX5_seats_141 (Nat.le_of_ble_eq_true rfl) rfl ?_
        refine gw_forget (ls' := [some (.ref (ad 0)), some (.int p1), none, some (.int r_13), some (.int (((10 : Int32) * x5) + x6)), some (.int x5), some (.int x6), none]) (gw_sub.s (gw_sub.s (gw_sub.n (gw_sub.s (gw_sub.s (gw_sub.s (gw_sub.s (gw_sub.n gw_sub.z)))))))) ?_
        exact tk_X5_seats_143  hK42  ih r_13 (((10 : Int32) * x5) + x6) x5 x6 h_12 hw
def wl_X5_seats_42 (p1 : Int32)  (Q : Int32 → gw_H → Prop) : Nat → Int32 → Int32 → Int32 → gw_H → Prop
  | 0 => fun _ _ _ _ => False
  | n + 1 => fun x3 x4 x5 h => (((h 10 8) ≤ x5 → Q x4 h) ∧ (¬ (h 10 8) ≤ x5 → (∃ n_15 : Nat, wl_X5_seats_63 p1 (wl_X5_seats_42 p1  Q n) Q n_15 x3 x4 x5 (x5 + (1 : Int32)) h)))
set_option maxRecDepth 100000 in
set_option maxHeartbeats 4000000 in
theorem tl_X5_seats_42 {l : Launch} {ad : Nat → Nat} {X : gw_X} {p1 : Int32}  {Q : Int32 → gw_H → Prop}   : ∀ (n : Nat) (x3 : Int32) (x4 : Int32) (x5 : Int32) (h : gw_H), wl_X5_seats_42 p1  Q n x3 x4 x5 h → gw_G l vC ad cX5_seats RX5 8 (some .int) 6 145 Q X h 42 [some (.ref (ad 0)), some (.int p1), none, some (.int x3), some (.int x4), some (.int x5), none, none] [] := by
  intro n
  induction n with
  | zero => intro x3 x4 x5 h hw; exact hw.elim
  | succ n ih =>
    intro x3 x4 x5 h hw
    unfold wl_X5_seats_42 at hw
    refine gw_iload dX5_seats_42 rfl ?_
    refine gw_aload_n dX5_seats_44 rfl rfl ?_
    refine gw_getf (k := 0) (v := .ref (ad 1)) oX5 clX5 inUX5 (Nat.le_of_ble_eq_true rfl) rfl lfX5_10 rfl dX5_seats_45 ?_
    refine gw_getfN (k := 2) (v := .ref (ad 10)) (oX2 hb1) clX2 inUX2 (Nat.le_of_ble_eq_true rfl) rfl lfX5_96 rfl dX5_seats_48 ?_
    refine gw_getfN (k := 8) (v := .int (h 10 8)) (oX1 hb1) clX1 inUX1 (Nat.le_of_ble_eq_true rfl) rfl lfX5_202 rfl dX5_seats_51 ?_
    refine gw_icmp_ge (tgt := 155) dX5_seats_54 (by decide) (fun c_7 => ?_) (fun c_7 => ?_)
    · have hw := hw.1 c_7
      refine gw_iload dX5_seats_155 rfl ?_
      exact gw_ireturn (ty := .int) hw rfl rfl dX5_seats_157
    · have hw := hw.2 c_7
      refine gw_iload dX5_seats_57 rfl ?_
      refine gw_iconst dX5_seats_59 ic_1 ?_
      refine gw_iadd dX5_seats_60 ?_
      refine gw_istore (ls' := [some (.ref (ad 0)), some (.int p1), none, some (.int x3), some (.int x4), some (.int x5), some (.int (x5 + (1 : Int32))), none]) dX5_seats_61 (Nat.le_of_ble_eq_true rfl) rfl ?_
      obtain ⟨n_15, hw⟩ := hw
      exact tl_X5_seats_63  ih n_15 x3 x4 x5 (x5 + (1 : Int32)) h hw
def wp_X5_seats (h : gw_H) (p1 : Int32) (Q : Int32 → gw_H → Prop) : Prop :=
  (wp_X5_outside h p1 (0 : Int32) (60 : Int32) (fun r_2 h_1 => ((r_2 = 0 → (wp_X5_imagine h_1 p1 (fun _ h_4 => (wp_X1_holders h_4 24 (-1 : Int32) (fun r_6 h_5 => (∃ n_16 : Nat, wl_X5_seats_42 p1  Q n_16 r_6 (-9 : Int32) (0 : Int32) h_5)))))) ∧ (¬ r_2 = 0 → (wp_X5_refuse h_1 r_2 (fun r_18 h_17 => Q r_18 h_17))))))
set_option maxRecDepth 100000 in
set_option maxHeartbeats 4000000 in
theorem gc_X5_seats {l : Launch} {ad : Nat → Nat} {h : gw_H} {p1 : Int32} {Q : Int32 → gw_H → Prop}  (hw : wp_X5_seats h p1 Q) : gw_C l yX5_seats cX5_seats 8 (some .int) 6 145 vC ad [.ref (ad 0), .int p1] h Q := by
  refine gw_entry (own := RX5) [some (.ref (ad 0)), some (.int p1), none, none, none, none, none, none] pl_X5 rfl rfl (Nat.le_of_ble_eq_true rfl) rfl (fun X => ?_)
  unfold wp_X5_seats at hw
  refine gw_iload_n dX5_seats_0 rfl rfl ?_
  refine gw_iconst dX5_seats_1 ic_0 ?_
  refine gw_bipush dX5_seats_2 bp_60 ?_
  refine gw_callSi (As := [.int p1, .int (0 : Int32), .int (60 : Int32)]) (rest := []) rfl (gc_X5_outside  hw) mX5_outside lmX5_44 rfl rfl ⟨Nat.le_of_ble_eq_true rfl, Nat.le_of_ble_eq_true rfl⟩ (Nat.le_of_ble_eq_true rfl) dX5_seats_4 (fun r_2 h_1 hw => ?_)
  refine gw_istore_n (ls' := [some (.ref (ad 0)), some (.int p1), some (.int r_2), none, none, none, none, none]) dX5_seats_7 rfl (Nat.le_of_ble_eq_true rfl) rfl ?_
  refine gw_iload_n dX5_seats_8 rfl rfl ?_
  refine gw_if_eq (tgt := 18) dX5_seats_9 (by decide) (fun c_3 => ?_) (fun c_3 => ?_)
  · have hw := hw.1 c_3
    refine gw_aload_n dX5_seats_18 rfl rfl ?_
    refine gw_iload_n dX5_seats_19 rfl rfl ?_
    refine gw_callVv (As := [.int p1]) (rest := []) rfl (gc_X5_imagine  hw) mX5_imagine lmX5_175 oX5 clX5 rfl rfl ⟨Nat.le_of_ble_eq_true rfl, Nat.le_of_ble_eq_true rfl⟩ (Nat.le_of_ble_eq_true rfl) dX5_seats_20 (fun h_4 hw => ?_)
    refine gw_aload_n dX5_seats_23 rfl rfl ?_
    refine gw_getf (k := 1) (v := .ref (ad 24)) oX5 clX5 inUX5 (Nat.le_of_ble_eq_true rfl) rfl lfX5_16 rfl dX5_seats_24 ?_
    refine gw_getfN (k := 2) (v := .ref (ad 33)) (oX2 hb24) clX2 inUX2 (Nat.le_of_ble_eq_true rfl) rfl lfX5_96 rfl dX5_seats_27 ?_
    refine gw_iconst dX5_seats_30 ic_m1 ?_
    refine gw_callVi (As := [.int (-1 : Int32)]) (rest := []) rfl (gc_X1_holders hb24 hw) mX1_holders lmX5_100 (oX1 hb24) clX1 rfl rfl ⟨Nat.le_of_ble_eq_true rfl, Nat.le_of_ble_eq_true rfl⟩ (Nat.le_of_ble_eq_true rfl) dX5_seats_31 (fun r_6 h_5 hw => ?_)
    refine gw_istore_n (ls' := [some (.ref (ad 0)), some (.int p1), some (.int r_2), some (.int r_6), none, none, none, none]) dX5_seats_34 rfl (Nat.le_of_ble_eq_true rfl) rfl ?_
    refine gw_bipush dX5_seats_35 bp_m9 ?_
    refine gw_istore (ls' := [some (.ref (ad 0)), some (.int p1), some (.int r_2), some (.int r_6), some (.int (-9 : Int32)), none, none, none]) dX5_seats_37 (Nat.le_of_ble_eq_true rfl) rfl ?_
    refine gw_iconst dX5_seats_39 ic_0 ?_
    refine gw_istore (ls' := [some (.ref (ad 0)), some (.int p1), some (.int r_2), some (.int r_6), some (.int (-9 : Int32)), some (.int (0 : Int32)), none, none]) dX5_seats_40 (Nat.le_of_ble_eq_true rfl) rfl ?_
    refine gw_forget (ls' := [some (.ref (ad 0)), some (.int p1), none, some (.int r_6), some (.int (-9 : Int32)), some (.int (0 : Int32)), none, none]) (gw_sub.s (gw_sub.s (gw_sub.n (gw_sub.s (gw_sub.s (gw_sub.s (gw_sub.n (gw_sub.n gw_sub.z)))))))) ?_
    obtain ⟨n_16, hw⟩ := hw
    exact tl_X5_seats_42   n_16 r_6 (-9 : Int32) (0 : Int32) h_5 hw
  · have hw := hw.2 c_3
    refine gw_aload_n dX5_seats_12 rfl rfl ?_
    refine gw_iload_n dX5_seats_13 rfl rfl ?_
    refine gw_callVi (As := [.int r_2]) (rest := []) rfl (gc_X5_refuse  hw) mX5_refuse lmX5_48 oX5 clX5 rfl rfl ⟨Nat.le_of_ble_eq_true rfl, Nat.le_of_ble_eq_true rfl⟩ (Nat.le_of_ble_eq_true rfl) dX5_seats_14 (fun r_18 h_17 hw => ?_)
    exact gw_ireturn (ty := .int) hw rfl rfl dX5_seats_17
def wl_X5_seeds_44 (p1 : Int32) (p2 : Int32) (K35 : Int32 → Int32 → gw_H → Prop) (Q : Int32 → gw_H → Prop) : Nat → Int32 → Int32 → Int32 → gw_H → Prop
  | 0 => fun _ _ _ _ => False
  | n + 1 => fun x4 x5 x6 h => (((h 33 8) ≤ x6 → (wp_X2_passHour h 24 (fun r_10 h_9 => (K35 x4 (x5 + (1 : Int32)) h_9)))) ∧ (¬ (h 33 8) ≤ x6 → (wp_X5_put h (35) 6 x6 (((((x4 * (1664525 : Int32)) + (1013904223 : Int32)) &&& (2147483647 : Int32)) / (256 : Int32)) - ((((x4 * (1664525 : Int32)) + (1013904223 : Int32)) &&& (2147483647 : Int32)) / (256 : Int32)) / (5 : Int32) * (5 : Int32)) (fun _ h_11 => ((wl_X5_seeds_44 p1 p2 K35 Q n) ((x4 * (1664525 : Int32)) + (1013904223 : Int32)) x5 (x6 + (1 : Int32)) h_11)))))
set_option maxRecDepth 100000 in
set_option maxHeartbeats 4000000 in
theorem tl_X5_seeds_44 {l : Launch} {ad : Nat → Nat} {X : gw_X} {p1 : Int32} {p2 : Int32} {K35 : Int32 → Int32 → gw_H → Prop} {Q : Int32 → gw_H → Prop}  (hK35 : ∀ (y4 : Int32) (y5 : Int32) (h : gw_H), K35 y4 y5 h → gw_G l vC ad cX5_seeds RX5 7 (some .int) 4 124 Q X h 35 [some (.ref (ad 0)), some (.int p1), some (.int p2), none, some (.int y4), some (.int y5), none] []) : ∀ (n : Nat) (x4 : Int32) (x5 : Int32) (x6 : Int32) (h : gw_H), wl_X5_seeds_44 p1 p2 K35 Q n x4 x5 x6 h → gw_G l vC ad cX5_seeds RX5 7 (some .int) 4 124 Q X h 44 [some (.ref (ad 0)), some (.int p1), some (.int p2), none, some (.int x4), some (.int x5), some (.int x6)] [] := by
  intro n
  induction n with
  | zero => intro x4 x5 x6 h hw; exact hw.elim
  | succ n ih =>
    intro x4 x5 x6 h hw
    unfold wl_X5_seeds_44 at hw
    refine gw_iload dX5_seeds_44 rfl ?_
    refine gw_aload_n dX5_seeds_46 rfl rfl ?_
    refine gw_getf (k := 1) (v := .ref (ad 24)) oX5 clX5 inUX5 (Nat.le_of_ble_eq_true rfl) rfl lfX5_16 rfl dX5_seeds_47 ?_
    refine gw_getfN (k := 2) (v := .ref (ad 33)) (oX2 hb24) clX2 inUX2 (Nat.le_of_ble_eq_true rfl) rfl lfX5_96 rfl dX5_seeds_50 ?_
    refine gw_getfN (k := 8) (v := .int (h 33 8)) (oX1 hb24) clX1 inUX1 (Nat.le_of_ble_eq_true rfl) rfl lfX5_202 rfl dX5_seeds_53 ?_
    refine gw_icmp_ge (tgt := 101) dX5_seeds_56 (by decide) (fun c_8 => ?_) (fun c_8 => ?_)
    · have hw := hw.1 c_8
      refine gw_aload_n dX5_seeds_101 rfl rfl ?_
      refine gw_getf (k := 1) (v := .ref (ad 24)) oX5 clX5 inUX5 (Nat.le_of_ble_eq_true rfl) rfl lfX5_16 rfl dX5_seeds_102 ?_
      refine gw_callVi (As := []) (rest := []) rfl (gc_X2_passHour hb24 hw) mX2_passHour lmX5_165 (oX2 hb24) clX2 rfl rfl ⟨Nat.le_of_ble_eq_true rfl, Nat.le_of_ble_eq_true rfl⟩ (Nat.le_of_ble_eq_true rfl) dX5_seeds_105 (fun r_10 h_9 hw => ?_)
      refine gw_pop dX5_seeds_108 rfl ?_
      refine gw_iinc (ls' := [some (.ref (ad 0)), some (.int p1), some (.int p2), none, some (.int x4), some (.int (x5 + (1 : Int32))), some (.int x6)]) dX5_seeds_109 rfl (congrArg (fun z => x5 + z) ic_1) (Nat.le_of_ble_eq_true rfl) rfl ?_
      refine gw_goto (tgt := 35) dX5_seeds_112 (by decide) ?_
      refine gw_forget (ls' := [some (.ref (ad 0)), some (.int p1), some (.int p2), none, some (.int x4), some (.int (x5 + (1 : Int32))), none]) (gw_sub.s (gw_sub.s (gw_sub.s (gw_sub.n (gw_sub.s (gw_sub.s (gw_sub.n gw_sub.z))))))) ?_
      exact hK35 x4 (x5 + (1 : Int32)) h_9 hw
    · have hw := hw.2 c_8
      refine gw_iload dX5_seeds_59 rfl ?_
      refine gw_ldc dX5_seeds_61 lkX5_229 ?_
      refine gw_imul dX5_seeds_63 ?_
      refine gw_ldc dX5_seeds_64 lkX5_230 ?_
      refine gw_iadd dX5_seeds_66 ?_
      refine gw_istore (ls' := [some (.ref (ad 0)), some (.int p1), some (.int p2), none, some (.int ((x4 * (1664525 : Int32)) + (1013904223 : Int32))), some (.int x5), some (.int x6)]) dX5_seeds_67 (Nat.le_of_ble_eq_true rfl) rfl ?_
      refine gw_aload_n dX5_seeds_69 rfl rfl ?_
      refine gw_getf (k := 1) (v := .ref (ad 24)) oX5 clX5 inUX5 (Nat.le_of_ble_eq_true rfl) rfl lfX5_16 rfl dX5_seeds_70 ?_
      refine gw_getfN (k := 2) (v := .ref (ad 33)) (oX2 hb24) clX2 inUX2 (Nat.le_of_ble_eq_true rfl) rfl lfX5_96 rfl dX5_seeds_73 ?_
      refine gw_getfN (k := 1) (v := .ref (ad 35)) (oX1 hb24) clX1 inUX1 (Nat.le_of_ble_eq_true rfl) rfl lfX5_107 rfl dX5_seeds_76 ?_
      refine gw_iload dX5_seeds_79 rfl ?_
      refine gw_iload dX5_seeds_81 rfl ?_
      refine gw_ldc dX5_seeds_83 lkX5_231 ?_
      refine gw_iand dX5_seeds_85 ?_
      refine gw_sipush dX5_seeds_86 sp_256 ?_
      refine gw_idiv dX5_seeds_89 (by decide) ?_
      refine gw_iconst dX5_seeds_90 ic_5 ?_
      refine gw_irem dX5_seeds_91 (by decide) ?_
      refine gw_callSv (As := [.ref (ad 35), .int x6, .int (((((x4 * (1664525 : Int32)) + (1013904223 : Int32)) &&& (2147483647 : Int32)) / (256 : Int32)) - ((((x4 * (1664525 : Int32)) + (1013904223 : Int32)) &&& (2147483647 : Int32)) / (256 : Int32)) / (5 : Int32) * (5 : Int32))]) (rest := []) rfl (gc_X5_put (ar_11 hb24) hw) mX5_put lmX5_151 rfl rfl ⟨Nat.le_of_ble_eq_true rfl, Nat.le_of_ble_eq_true rfl⟩ (Nat.le_of_ble_eq_true rfl) dX5_seeds_92 (fun h_11 hw => ?_)
      refine gw_iinc (ls' := [some (.ref (ad 0)), some (.int p1), some (.int p2), none, some (.int ((x4 * (1664525 : Int32)) + (1013904223 : Int32))), some (.int x5), some (.int (x6 + (1 : Int32)))]) dX5_seeds_95 rfl (congrArg (fun z => x6 + z) ic_1) (Nat.le_of_ble_eq_true rfl) rfl ?_
      refine gw_goto (tgt := 44) dX5_seeds_98 (by decide) ?_
      exact ih ((x4 * (1664525 : Int32)) + (1013904223 : Int32)) x5 (x6 + (1 : Int32)) h_11 hw
def wl_X5_seeds_35 (p1 : Int32) (p2 : Int32)  (Q : Int32 → gw_H → Prop) : Nat → Int32 → Int32 → gw_H → Prop
  | 0 => fun _ _ _ => False
  | n + 1 => fun x4 x5 h => ((p1 ≤ x5 → (wp_X1_holders h 24 (-1 : Int32) (fun r_7 h_6 => Q r_7 h_6))) ∧ (¬ p1 ≤ x5 → (∃ n_12 : Nat, wl_X5_seeds_44 p1 p2 (wl_X5_seeds_35 p1 p2  Q n) Q n_12 x4 x5 (0 : Int32) h)))
set_option maxRecDepth 100000 in
set_option maxHeartbeats 4000000 in
theorem tl_X5_seeds_35 {l : Launch} {ad : Nat → Nat} {X : gw_X} {p1 : Int32} {p2 : Int32}  {Q : Int32 → gw_H → Prop}   : ∀ (n : Nat) (x4 : Int32) (x5 : Int32) (h : gw_H), wl_X5_seeds_35 p1 p2  Q n x4 x5 h → gw_G l vC ad cX5_seeds RX5 7 (some .int) 4 124 Q X h 35 [some (.ref (ad 0)), some (.int p1), some (.int p2), none, some (.int x4), some (.int x5), none] [] := by
  intro n
  induction n with
  | zero => intro x4 x5 h hw; exact hw.elim
  | succ n ih =>
    intro x4 x5 h hw
    unfold wl_X5_seeds_35 at hw
    refine gw_iload dX5_seeds_35 rfl ?_
    refine gw_iload_n dX5_seeds_37 rfl rfl ?_
    refine gw_icmp_ge (tgt := 115) dX5_seeds_38 (by decide) (fun c_5 => ?_) (fun c_5 => ?_)
    · have hw := hw.1 c_5
      refine gw_aload_n dX5_seeds_115 rfl rfl ?_
      refine gw_getf (k := 1) (v := .ref (ad 24)) oX5 clX5 inUX5 (Nat.le_of_ble_eq_true rfl) rfl lfX5_16 rfl dX5_seeds_116 ?_
      refine gw_getfN (k := 2) (v := .ref (ad 33)) (oX2 hb24) clX2 inUX2 (Nat.le_of_ble_eq_true rfl) rfl lfX5_96 rfl dX5_seeds_119 ?_
      refine gw_iconst dX5_seeds_122 ic_m1 ?_
      refine gw_callVi (As := [.int (-1 : Int32)]) (rest := []) rfl (gc_X1_holders hb24 hw) mX1_holders lmX5_100 (oX1 hb24) clX1 rfl rfl ⟨Nat.le_of_ble_eq_true rfl, Nat.le_of_ble_eq_true rfl⟩ (Nat.le_of_ble_eq_true rfl) dX5_seeds_123 (fun r_7 h_6 hw => ?_)
      exact gw_ireturn (ty := .int) hw rfl rfl dX5_seeds_126
    · have hw := hw.2 c_5
      refine gw_iconst dX5_seeds_41 ic_0 ?_
      refine gw_istore (ls' := [some (.ref (ad 0)), some (.int p1), some (.int p2), none, some (.int x4), some (.int x5), some (.int (0 : Int32))]) dX5_seeds_42 (Nat.le_of_ble_eq_true rfl) rfl ?_
      obtain ⟨n_12, hw⟩ := hw
      exact tl_X5_seeds_44  ih n_12 x4 x5 (0 : Int32) h hw
def wp_X5_seeds (h : gw_H) (p1 : Int32) (p2 : Int32) (Q : Int32 → gw_H → Prop) : Prop :=
  (wp_X5_outside h p1 (1 : Int32) (40 : Int32) (fun r_2 h_1 => ((r_2 = 0 → (wp_X2_takeAs h_1 24 1 (fun _ h_4 => (∃ n_13 : Nat, wl_X5_seeds_35 p1 p2  Q n_13 p2 (0 : Int32) h_4)))) ∧ (¬ r_2 = 0 → (wp_X5_refuse h_1 r_2 (fun r_15 h_14 => Q r_15 h_14))))))
set_option maxRecDepth 100000 in
set_option maxHeartbeats 4000000 in
theorem gc_X5_seeds {l : Launch} {ad : Nat → Nat} {h : gw_H} {p1 : Int32} {p2 : Int32} {Q : Int32 → gw_H → Prop}  (hw : wp_X5_seeds h p1 p2 Q) : gw_C l yX5_seeds cX5_seeds 7 (some .int) 4 124 vC ad [.ref (ad 0), .int p1, .int p2] h Q := by
  refine gw_entry (own := RX5) [some (.ref (ad 0)), some (.int p1), some (.int p2), none, none, none, none] pl_X5 rfl rfl (Nat.le_of_ble_eq_true rfl) rfl (fun X => ?_)
  unfold wp_X5_seeds at hw
  refine gw_iload_n dX5_seeds_0 rfl rfl ?_
  refine gw_iconst dX5_seeds_1 ic_1 ?_
  refine gw_bipush dX5_seeds_2 bp_40 ?_
  refine gw_callSi (As := [.int p1, .int (1 : Int32), .int (40 : Int32)]) (rest := []) rfl (gc_X5_outside  hw) mX5_outside lmX5_44 rfl rfl ⟨Nat.le_of_ble_eq_true rfl, Nat.le_of_ble_eq_true rfl⟩ (Nat.le_of_ble_eq_true rfl) dX5_seeds_4 (fun r_2 h_1 hw => ?_)
  refine gw_istore_n (ls' := [some (.ref (ad 0)), some (.int p1), some (.int p2), some (.int r_2), none, none, none]) dX5_seeds_7 rfl (Nat.le_of_ble_eq_true rfl) rfl ?_
  refine gw_iload_n dX5_seeds_8 rfl rfl ?_
  refine gw_if_eq (tgt := 18) dX5_seeds_9 (by decide) (fun c_3 => ?_) (fun c_3 => ?_)
  · have hw := hw.1 c_3
    refine gw_aload_n dX5_seeds_18 rfl rfl ?_
    refine gw_getf (k := 1) (v := .ref (ad 24)) oX5 clX5 inUX5 (Nat.le_of_ble_eq_true rfl) rfl lfX5_16 rfl dX5_seeds_19 ?_
    refine gw_aload_n dX5_seeds_22 rfl rfl ?_
    refine gw_getf (k := 0) (v := .ref (ad 1)) oX5 clX5 inUX5 (Nat.le_of_ble_eq_true rfl) rfl lfX5_10 rfl dX5_seeds_23 ?_
    refine gw_callVv (As := [.ref (ad 1)]) (rest := []) rfl (gc_X2_takeAs hb24 hb1 hw) mX2_takeAs lmX5_181 (oX2 hb24) clX2 rfl rfl ⟨Nat.le_of_ble_eq_true rfl, Nat.le_of_ble_eq_true rfl⟩ (Nat.le_of_ble_eq_true rfl) dX5_seeds_26 (fun h_4 hw => ?_)
    refine gw_iload_n dX5_seeds_29 rfl rfl ?_
    refine gw_istore (ls' := [some (.ref (ad 0)), some (.int p1), some (.int p2), some (.int r_2), some (.int p2), none, none]) dX5_seeds_30 (Nat.le_of_ble_eq_true rfl) rfl ?_
    refine gw_iconst dX5_seeds_32 ic_0 ?_
    refine gw_istore (ls' := [some (.ref (ad 0)), some (.int p1), some (.int p2), some (.int r_2), some (.int p2), some (.int (0 : Int32)), none]) dX5_seeds_33 (Nat.le_of_ble_eq_true rfl) rfl ?_
    refine gw_forget (ls' := [some (.ref (ad 0)), some (.int p1), some (.int p2), none, some (.int p2), some (.int (0 : Int32)), none]) (gw_sub.s (gw_sub.s (gw_sub.s (gw_sub.n (gw_sub.s (gw_sub.s (gw_sub.n gw_sub.z))))))) ?_
    obtain ⟨n_13, hw⟩ := hw
    exact tl_X5_seeds_35   n_13 p2 (0 : Int32) h_4 hw
  · have hw := hw.2 c_3
    refine gw_aload_n dX5_seeds_12 rfl rfl ?_
    refine gw_iload_n dX5_seeds_13 rfl rfl ?_
    refine gw_callVi (As := [.int r_2]) (rest := []) rfl (gc_X5_refuse  hw) mX5_refuse lmX5_48 oX5 clX5 rfl rfl ⟨Nat.le_of_ble_eq_true rfl, Nat.le_of_ble_eq_true rfl⟩ (Nat.le_of_ble_eq_true rfl) dX5_seeds_14 (fun r_15 h_14 hw => ?_)
    exact gw_ireturn (ty := .int) hw rfl rfl dX5_seeds_17
def wk_X5_shut_130 (p1 : Int32) (K42 : Int32 → Int32 → Int32 → gw_H → Prop) (Q : Int32 → gw_H → Prop) : Int32 → Int32 → Int32 → gw_H → Prop :=
  fun x3 x4 x5 h => (K42 x3 x4 (x5 + (1 : Int32)) h)
set_option maxRecDepth 100000 in
set_option maxHeartbeats 4000000 in
theorem tk_X5_shut_130 {l : Launch} {ad : Nat → Nat} {X : gw_X} {p1 : Int32} {K42 : Int32 → Int32 → Int32 → gw_H → Prop} {Q : Int32 → gw_H → Prop}  (hK42 : ∀ (y3 : Int32) (y4 : Int32) (y5 : Int32) (h : gw_H), K42 y3 y4 y5 h → gw_G l vC ad cX5_shut RX5 7 (some .int) 6 145 Q X h 42 [some (.ref (ad 0)), some (.int p1), none, some (.int y3), some (.int y4), some (.int y5), none] []) (x3 : Int32) (x4 : Int32) (x5 : Int32) (h : gw_H) (hw : wk_X5_shut_130 p1 K42 Q x3 x4 x5 h) : gw_G l vC ad cX5_shut RX5 7 (some .int) 6 145 Q X h 130 [some (.ref (ad 0)), some (.int p1), none, some (.int x3), some (.int x4), some (.int x5), none] [] := by
  unfold wk_X5_shut_130 at hw
  refine gw_iinc (ls' := [some (.ref (ad 0)), some (.int p1), none, some (.int x3), some (.int x4), some (.int (x5 + (1 : Int32))), none]) dX5_shut_130 rfl (congrArg (fun z => x5 + z) ic_1) (Nat.le_of_ble_eq_true rfl) rfl ?_
  refine gw_goto (tgt := 42) dX5_shut_133 (by decide) ?_
  exact hK42 x3 x4 (x5 + (1 : Int32)) h hw
def wl_X5_shut_42 (p1 : Int32)  (Q : Int32 → gw_H → Prop) : Nat → Int32 → Int32 → Int32 → gw_H → Prop
  | 0 => fun _ _ _ _ => False
  | n + 1 => fun x3 x4 x5 h => (((h 2 3) ≤ x5 → Q x4 h) ∧ (¬ (h 2 3) ≤ x5 → (wp_X0_isOpen h 1 x5 (fun r_9 h_8 => ((r_9 = 0 → (wk_X5_shut_130 p1 (wl_X5_shut_42 p1  Q n) Q x3 x4 x5 h_8)) ∧ (¬ r_9 = 0 → (wp_X2_takeAs h_8 24 1 (fun _ h_11 => (wp_X0_turn h_11 24 x5 (fun r_13 h_12 => (wp_X2_passHours h_12 24 p1 (fun _ h_14 => (wp_X1_holders h_14 24 (-1 : Int32) (fun r_16 h_15 => ((x3 ≤ r_16 → (wk_X5_shut_130 p1 (wl_X5_shut_42 p1  Q n) Q x3 x4 x5 h_15)) ∧ (¬ x3 ≤ r_16 → (wk_X5_shut_130 p1 (wl_X5_shut_42 p1  Q n) Q r_16 x5 x5 h_15)))))))))))))))))
set_option maxRecDepth 100000 in
set_option maxHeartbeats 4000000 in
theorem tl_X5_shut_42 {l : Launch} {ad : Nat → Nat} {X : gw_X} {p1 : Int32}  {Q : Int32 → gw_H → Prop}   : ∀ (n : Nat) (x3 : Int32) (x4 : Int32) (x5 : Int32) (h : gw_H), wl_X5_shut_42 p1  Q n x3 x4 x5 h → gw_G l vC ad cX5_shut RX5 7 (some .int) 6 145 Q X h 42 [some (.ref (ad 0)), some (.int p1), none, some (.int x3), some (.int x4), some (.int x5), none] [] := by
  intro n
  induction n with
  | zero => intro x3 x4 x5 h hw; exact hw.elim
  | succ n ih =>
    intro x3 x4 x5 h hw
    unfold wl_X5_shut_42 at hw
    refine gw_iload dX5_shut_42 rfl ?_
    refine gw_aload_n dX5_shut_44 rfl rfl ?_
    refine gw_getf (k := 0) (v := .ref (ad 1)) oX5 clX5 inUX5 (Nat.le_of_ble_eq_true rfl) rfl lfX5_10 rfl dX5_shut_45 ?_
    refine gw_getfN (k := 0) (v := .ref (ad 2)) (oX2 hb1) clX2 inUX2 (Nat.le_of_ble_eq_true rfl) rfl lfX5_138 rfl dX5_shut_48 ?_
    refine gw_getfN (k := 3) (v := .int (h 2 3)) (oX0 hb1) clX0 inUX0 (Nat.le_of_ble_eq_true rfl) rfl lfX5_195 rfl dX5_shut_51 ?_
    refine gw_icmp_ge (tgt := 136) dX5_shut_54 (by decide) (fun c_7 => ?_) (fun c_7 => ?_)
    · have hw := hw.1 c_7
      refine gw_iload dX5_shut_136 rfl ?_
      exact gw_ireturn (ty := .int) hw rfl rfl dX5_shut_138
    · have hw := hw.2 c_7
      refine gw_aload_n dX5_shut_57 rfl rfl ?_
      refine gw_getf (k := 0) (v := .ref (ad 1)) oX5 clX5 inUX5 (Nat.le_of_ble_eq_true rfl) rfl lfX5_10 rfl dX5_shut_58 ?_
      refine gw_getfN (k := 0) (v := .ref (ad 2)) (oX2 hb1) clX2 inUX2 (Nat.le_of_ble_eq_true rfl) rfl lfX5_138 rfl dX5_shut_61 ?_
      refine gw_iload dX5_shut_64 rfl ?_
      refine gw_callVi (As := [.int x5]) (rest := []) rfl (gc_X0_isOpen hb1 hw) mX0_isOpen lmX5_196 (oX0 hb1) clX0 rfl rfl ⟨Nat.le_of_ble_eq_true rfl, Nat.le_of_ble_eq_true rfl⟩ (Nat.le_of_ble_eq_true rfl) dX5_shut_66 (fun r_9 h_8 hw => ?_)
      refine gw_if_eq (tgt := 130) dX5_shut_69 (by decide) (fun c_10 => ?_) (fun c_10 => ?_)
      · have hw := hw.1 c_10
        exact tk_X5_shut_130   ih x3 x4 x5 h_8 hw
      · have hw := hw.2 c_10
        refine gw_aload_n dX5_shut_72 rfl rfl ?_
        refine gw_getf (k := 1) (v := .ref (ad 24)) oX5 clX5 inUX5 (Nat.le_of_ble_eq_true rfl) rfl lfX5_16 rfl dX5_shut_73 ?_
        refine gw_aload_n dX5_shut_76 rfl rfl ?_
        refine gw_getf (k := 0) (v := .ref (ad 1)) oX5 clX5 inUX5 (Nat.le_of_ble_eq_true rfl) rfl lfX5_10 rfl dX5_shut_77 ?_
        refine gw_callVv (As := [.ref (ad 1)]) (rest := []) rfl (gc_X2_takeAs hb24 hb1 hw) mX2_takeAs lmX5_181 (oX2 hb24) clX2 rfl rfl ⟨Nat.le_of_ble_eq_true rfl, Nat.le_of_ble_eq_true rfl⟩ (Nat.le_of_ble_eq_true rfl) dX5_shut_80 (fun h_11 hw => ?_)
        refine gw_aload_n dX5_shut_83 rfl rfl ?_
        refine gw_getf (k := 1) (v := .ref (ad 24)) oX5 clX5 inUX5 (Nat.le_of_ble_eq_true rfl) rfl lfX5_16 rfl dX5_shut_84 ?_
        refine gw_getfN (k := 0) (v := .ref (ad 25)) (oX2 hb24) clX2 inUX2 (Nat.le_of_ble_eq_true rfl) rfl lfX5_138 rfl dX5_shut_87 ?_
        refine gw_iload dX5_shut_90 rfl ?_
        refine gw_callVi (As := [.int x5]) (rest := []) rfl (gc_X0_turn hb24 hw) mX0_turn lmX5_145 (oX0 hb24) clX0 rfl rfl ⟨Nat.le_of_ble_eq_true rfl, Nat.le_of_ble_eq_true rfl⟩ (Nat.le_of_ble_eq_true rfl) dX5_shut_92 (fun r_13 h_12 hw => ?_)
        refine gw_pop dX5_shut_95 rfl ?_
        refine gw_aload_n dX5_shut_96 rfl rfl ?_
        refine gw_getf (k := 1) (v := .ref (ad 24)) oX5 clX5 inUX5 (Nat.le_of_ble_eq_true rfl) rfl lfX5_16 rfl dX5_shut_97 ?_
        refine gw_iload_n dX5_shut_100 rfl rfl ?_
        refine gw_callVv (As := [.int p1]) (rest := []) rfl (gc_X2_passHours hb24 hw) mX2_passHours lmX5_199 (oX2 hb24) clX2 rfl rfl ⟨Nat.le_of_ble_eq_true rfl, Nat.le_of_ble_eq_true rfl⟩ (Nat.le_of_ble_eq_true rfl) dX5_shut_101 (fun h_14 hw => ?_)
        refine gw_aload_n dX5_shut_104 rfl rfl ?_
        refine gw_getf (k := 1) (v := .ref (ad 24)) oX5 clX5 inUX5 (Nat.le_of_ble_eq_true rfl) rfl lfX5_16 rfl dX5_shut_105 ?_
        refine gw_getfN (k := 2) (v := .ref (ad 33)) (oX2 hb24) clX2 inUX2 (Nat.le_of_ble_eq_true rfl) rfl lfX5_96 rfl dX5_shut_108 ?_
        refine gw_iconst dX5_shut_111 ic_m1 ?_
        refine gw_callVi (As := [.int (-1 : Int32)]) (rest := []) rfl (gc_X1_holders hb24 hw) mX1_holders lmX5_100 (oX1 hb24) clX1 rfl rfl ⟨Nat.le_of_ble_eq_true rfl, Nat.le_of_ble_eq_true rfl⟩ (Nat.le_of_ble_eq_true rfl) dX5_shut_112 (fun r_16 h_15 hw => ?_)
        refine gw_istore (ls' := [some (.ref (ad 0)), some (.int p1), none, some (.int x3), some (.int x4), some (.int x5), some (.int r_16)]) dX5_shut_115 (Nat.le_of_ble_eq_true rfl) rfl ?_
        refine gw_iload dX5_shut_117 rfl ?_
        refine gw_iload_n dX5_shut_119 rfl rfl ?_
        refine gw_icmp_ge (tgt := 130) dX5_shut_120 (by decide) (fun c_17 => ?_) (fun c_17 => ?_)
        · have hw := hw.1 c_17
          refine gw_forget (ls' := [some (.ref (ad 0)), some (.int p1), none, some (.int x3), some (.int x4), some (.int x5), none]) (gw_sub.s (gw_sub.s (gw_sub.n (gw_sub.s (gw_sub.s (gw_sub.s (gw_sub.n gw_sub.z))))))) ?_
          exact tk_X5_shut_130   ih x3 x4 x5 h_15 hw
        · have hw := hw.2 c_17
          refine gw_iload dX5_shut_123 rfl ?_
          refine gw_istore_n (ls' := [some (.ref (ad 0)), some (.int p1), none, some (.int r_16), some (.int x4), some (.int x5), some (.int r_16)]) dX5_shut_125 rfl (Nat.le_of_ble_eq_true rfl) rfl ?_
          refine gw_iload dX5_shut_126 rfl ?_
          refine gw_istore (ls' := [some (.ref (ad 0)), some (.int p1), none, some (.int r_16), some (.int x5), some (.int x5), some (.int r_16)]) dX5_shut_128 (Nat.le_of_ble_eq_true rfl) rfl ?_
          refine gw_forget (ls' := [some (.ref (ad 0)), some (.int p1), none, some (.int r_16), some (.int x5), some (.int x5), none]) (gw_sub.s (gw_sub.s (gw_sub.n (gw_sub.s (gw_sub.s (gw_sub.s (gw_sub.n gw_sub.z))))))) ?_
          exact tk_X5_shut_130   ih r_16 x5 x5 h_15 hw
def wp_X5_shut (h : gw_H) (p1 : Int32) (Q : Int32 → gw_H → Prop) : Prop :=
  (wp_X5_outside h p1 (0 : Int32) (60 : Int32) (fun r_2 h_1 => ((r_2 = 0 → (wp_X5_imagine h_1 p1 (fun _ h_4 => (wp_X1_holders h_4 24 (-1 : Int32) (fun r_6 h_5 => (∃ n_18 : Nat, wl_X5_shut_42 p1  Q n_18 r_6 (-9 : Int32) (0 : Int32) h_5)))))) ∧ (¬ r_2 = 0 → (wp_X5_refuse h_1 r_2 (fun r_20 h_19 => Q r_20 h_19))))))
set_option maxRecDepth 100000 in
set_option maxHeartbeats 4000000 in
theorem gc_X5_shut {l : Launch} {ad : Nat → Nat} {h : gw_H} {p1 : Int32} {Q : Int32 → gw_H → Prop}  (hw : wp_X5_shut h p1 Q) : gw_C l yX5_shut cX5_shut 7 (some .int) 6 145 vC ad [.ref (ad 0), .int p1] h Q := by
  refine gw_entry (own := RX5) [some (.ref (ad 0)), some (.int p1), none, none, none, none, none] pl_X5 rfl rfl (Nat.le_of_ble_eq_true rfl) rfl (fun X => ?_)
  unfold wp_X5_shut at hw
  refine gw_iload_n dX5_shut_0 rfl rfl ?_
  refine gw_iconst dX5_shut_1 ic_0 ?_
  refine gw_bipush dX5_shut_2 bp_60 ?_
  refine gw_callSi (As := [.int p1, .int (0 : Int32), .int (60 : Int32)]) (rest := []) rfl (gc_X5_outside  hw) mX5_outside lmX5_44 rfl rfl ⟨Nat.le_of_ble_eq_true rfl, Nat.le_of_ble_eq_true rfl⟩ (Nat.le_of_ble_eq_true rfl) dX5_shut_4 (fun r_2 h_1 hw => ?_)
  refine gw_istore_n (ls' := [some (.ref (ad 0)), some (.int p1), some (.int r_2), none, none, none, none]) dX5_shut_7 rfl (Nat.le_of_ble_eq_true rfl) rfl ?_
  refine gw_iload_n dX5_shut_8 rfl rfl ?_
  refine gw_if_eq (tgt := 18) dX5_shut_9 (by decide) (fun c_3 => ?_) (fun c_3 => ?_)
  · have hw := hw.1 c_3
    refine gw_aload_n dX5_shut_18 rfl rfl ?_
    refine gw_iload_n dX5_shut_19 rfl rfl ?_
    refine gw_callVv (As := [.int p1]) (rest := []) rfl (gc_X5_imagine  hw) mX5_imagine lmX5_175 oX5 clX5 rfl rfl ⟨Nat.le_of_ble_eq_true rfl, Nat.le_of_ble_eq_true rfl⟩ (Nat.le_of_ble_eq_true rfl) dX5_shut_20 (fun h_4 hw => ?_)
    refine gw_aload_n dX5_shut_23 rfl rfl ?_
    refine gw_getf (k := 1) (v := .ref (ad 24)) oX5 clX5 inUX5 (Nat.le_of_ble_eq_true rfl) rfl lfX5_16 rfl dX5_shut_24 ?_
    refine gw_getfN (k := 2) (v := .ref (ad 33)) (oX2 hb24) clX2 inUX2 (Nat.le_of_ble_eq_true rfl) rfl lfX5_96 rfl dX5_shut_27 ?_
    refine gw_iconst dX5_shut_30 ic_m1 ?_
    refine gw_callVi (As := [.int (-1 : Int32)]) (rest := []) rfl (gc_X1_holders hb24 hw) mX1_holders lmX5_100 (oX1 hb24) clX1 rfl rfl ⟨Nat.le_of_ble_eq_true rfl, Nat.le_of_ble_eq_true rfl⟩ (Nat.le_of_ble_eq_true rfl) dX5_shut_31 (fun r_6 h_5 hw => ?_)
    refine gw_istore_n (ls' := [some (.ref (ad 0)), some (.int p1), some (.int r_2), some (.int r_6), none, none, none]) dX5_shut_34 rfl (Nat.le_of_ble_eq_true rfl) rfl ?_
    refine gw_bipush dX5_shut_35 bp_m9 ?_
    refine gw_istore (ls' := [some (.ref (ad 0)), some (.int p1), some (.int r_2), some (.int r_6), some (.int (-9 : Int32)), none, none]) dX5_shut_37 (Nat.le_of_ble_eq_true rfl) rfl ?_
    refine gw_iconst dX5_shut_39 ic_0 ?_
    refine gw_istore (ls' := [some (.ref (ad 0)), some (.int p1), some (.int r_2), some (.int r_6), some (.int (-9 : Int32)), some (.int (0 : Int32)), none]) dX5_shut_40 (Nat.le_of_ble_eq_true rfl) rfl ?_
    refine gw_forget (ls' := [some (.ref (ad 0)), some (.int p1), none, some (.int r_6), some (.int (-9 : Int32)), some (.int (0 : Int32)), none]) (gw_sub.s (gw_sub.s (gw_sub.n (gw_sub.s (gw_sub.s (gw_sub.s (gw_sub.n gw_sub.z))))))) ?_
    obtain ⟨n_18, hw⟩ := hw
    exact tl_X5_shut_42   n_18 r_6 (-9 : Int32) (0 : Int32) h_5 hw
  · have hw := hw.2 c_3
    refine gw_aload_n dX5_shut_12 rfl rfl ?_
    refine gw_iload_n dX5_shut_13 rfl rfl ?_
    refine gw_callVi (As := [.int r_2]) (rest := []) rfl (gc_X5_refuse  hw) mX5_refuse lmX5_48 oX5 clX5 rfl rfl ⟨Nat.le_of_ble_eq_true rfl, Nat.le_of_ble_eq_true rfl⟩ (Nat.le_of_ble_eq_true rfl) dX5_shut_14 (fun r_20 h_19 hw => ?_)
    exact gw_ireturn (ty := .int) hw rfl rfl dX5_shut_17
def wp_X5_song (h : gw_H) (p1 : Int32) (p2 : Int32) (Q : Int32 → gw_H → Prop) : Prop :=
  (wp_X3_has h 1 p1 (fun r_2 h_1 => ((¬ r_2 = 0 → ((p2 = (0 : Int32) → (wp_X5_at h_1 (7) 5 p1 (fun r_6 h_5 => Q r_6 h_5))) ∧ (¬ p2 = (0 : Int32) → ((p2 = (1 : Int32) → (wp_X5_at h_1 (8) 5 p1 (fun r_9 h_8 => Q r_9 h_8))) ∧ (¬ p2 = (1 : Int32) → ((p2 = (2 : Int32) → (wp_X5_at h_1 (9) 5 p1 (fun r_12 h_11 => Q r_12 h_11))) ∧ (¬ p2 = (2 : Int32) → ((p2 = (3 : Int32) → (wp_X3_fresh h_1 1 p1 (fun r_15 h_14 => Q r_15 h_14))) ∧ (¬ p2 = (3 : Int32) → ((p2 = (4 : Int32) → (wp_X1_holders h_1 1 p1 (fun r_18 h_17 => Q r_18 h_17))) ∧ (¬ p2 = (4 : Int32) → (wp_X5_refuse h_1 (-2 : Int32) (fun r_20 h_19 => Q r_20 h_19))))))))))))) ∧ (r_2 = 0 → (wp_X5_refuse h_1 (-1 : Int32) (fun r_22 h_21 => Q r_22 h_21))))))
set_option maxRecDepth 100000 in
set_option maxHeartbeats 4000000 in
theorem gc_X5_song {l : Launch} {ad : Nat → Nat} {h : gw_H} {p1 : Int32} {p2 : Int32} {Q : Int32 → gw_H → Prop}  (hw : wp_X5_song h p1 p2 Q) : gw_C l yX5_song cX5_song 3 (some .int) 3 65 vC ad [.ref (ad 0), .int p1, .int p2] h Q := by
  refine gw_entry (own := RX5) [some (.ref (ad 0)), some (.int p1), some (.int p2)] pl_X5 rfl rfl (Nat.le_of_ble_eq_true rfl) rfl (fun X => ?_)
  unfold wp_X5_song at hw
  refine gw_aload_n dX5_song_0 rfl rfl ?_
  refine gw_getf (k := 0) (v := .ref (ad 1)) oX5 clX5 inUX5 (Nat.le_of_ble_eq_true rfl) rfl lfX5_10 rfl dX5_song_1 ?_
  refine gw_getfN (k := 1) (v := .ref (ad 6)) (oX2 hb1) clX2 inUX2 (Nat.le_of_ble_eq_true rfl) rfl lfX5_70 rfl dX5_song_4 ?_
  refine gw_iload_n dX5_song_7 rfl rfl ?_
  refine gw_callVi (As := [.int p1]) (rest := []) rfl (gc_X3_has hb1 hw) mX3_has lmX5_74 (oX3 hb1) clX3 rfl rfl ⟨Nat.le_of_ble_eq_true rfl, Nat.le_of_ble_eq_true rfl⟩ (Nat.le_of_ble_eq_true rfl) dX5_song_8 (fun r_2 h_1 hw => ?_)
  refine gw_if_ne (tgt := 20) dX5_song_11 (by decide) (fun c_3 => ?_) (fun c_3 => ?_)
  · have hw := hw.1 c_3
    refine gw_iload_n dX5_song_20 rfl rfl ?_
    by_cases c_4 : p2 = (0 : Int32)
    · have hw := hw.1 c_4
      refine gw_tin (k := (0 : Int32)) (off := 35) (tgt := 56) dX5_song_21 c_4 (by decide) (by decide) (by decide) (by decide) ?_
      refine gw_aload_n dX5_song_56 rfl rfl ?_
      refine gw_getf (k := 0) (v := .ref (ad 1)) oX5 clX5 inUX5 (Nat.le_of_ble_eq_true rfl) rfl lfX5_10 rfl dX5_song_57 ?_
      refine gw_getfN (k := 1) (v := .ref (ad 6)) (oX2 hb1) clX2 inUX2 (Nat.le_of_ble_eq_true rfl) rfl lfX5_70 rfl dX5_song_60 ?_
      refine gw_getfN (k := 0) (v := .ref (ad 7)) (oX3 hb1) clX3 inUX3 (Nat.le_of_ble_eq_true rfl) rfl lfX5_80 rfl dX5_song_63 ?_
      refine gw_iload_n dX5_song_66 rfl rfl ?_
      refine gw_callSi (As := [.ref (ad 7), .int p1]) (rest := []) rfl (gc_X5_at (ar_6 hb1) hw) mX5_at lmX5_83 rfl rfl ⟨Nat.le_of_ble_eq_true rfl, Nat.le_of_ble_eq_true rfl⟩ (Nat.le_of_ble_eq_true rfl) dX5_song_67 (fun r_6 h_5 hw => ?_)
      exact gw_ireturn (ty := .int) hw rfl rfl dX5_song_70
    · have hw := hw.2 c_4
      by_cases c_7 : p2 = (1 : Int32)
      · have hw := hw.1 c_7
        refine gw_tin (k := (1 : Int32)) (off := 50) (tgt := 71) dX5_song_21 c_7 (by decide) (by decide) (by decide) (by decide) ?_
        refine gw_aload_n dX5_song_71 rfl rfl ?_
        refine gw_getf (k := 0) (v := .ref (ad 1)) oX5 clX5 inUX5 (Nat.le_of_ble_eq_true rfl) rfl lfX5_10 rfl dX5_song_72 ?_
        refine gw_getfN (k := 1) (v := .ref (ad 6)) (oX2 hb1) clX2 inUX2 (Nat.le_of_ble_eq_true rfl) rfl lfX5_70 rfl dX5_song_75 ?_
        refine gw_getfN (k := 1) (v := .ref (ad 8)) (oX3 hb1) clX3 inUX3 (Nat.le_of_ble_eq_true rfl) rfl lfX5_87 rfl dX5_song_78 ?_
        refine gw_iload_n dX5_song_81 rfl rfl ?_
        refine gw_callSi (As := [.ref (ad 8), .int p1]) (rest := []) rfl (gc_X5_at (ar_7 hb1) hw) mX5_at lmX5_83 rfl rfl ⟨Nat.le_of_ble_eq_true rfl, Nat.le_of_ble_eq_true rfl⟩ (Nat.le_of_ble_eq_true rfl) dX5_song_82 (fun r_9 h_8 hw => ?_)
        exact gw_ireturn (ty := .int) hw rfl rfl dX5_song_85
      · have hw := hw.2 c_7
        by_cases c_10 : p2 = (2 : Int32)
        · have hw := hw.1 c_10
          refine gw_tin (k := (2 : Int32)) (off := 65) (tgt := 86) dX5_song_21 c_10 (by decide) (by decide) (by decide) (by decide) ?_
          refine gw_aload_n dX5_song_86 rfl rfl ?_
          refine gw_getf (k := 0) (v := .ref (ad 1)) oX5 clX5 inUX5 (Nat.le_of_ble_eq_true rfl) rfl lfX5_10 rfl dX5_song_87 ?_
          refine gw_getfN (k := 1) (v := .ref (ad 6)) (oX2 hb1) clX2 inUX2 (Nat.le_of_ble_eq_true rfl) rfl lfX5_70 rfl dX5_song_90 ?_
          refine gw_getfN (k := 2) (v := .ref (ad 9)) (oX3 hb1) clX3 inUX3 (Nat.le_of_ble_eq_true rfl) rfl lfX5_90 rfl dX5_song_93 ?_
          refine gw_iload_n dX5_song_96 rfl rfl ?_
          refine gw_callSi (As := [.ref (ad 9), .int p1]) (rest := []) rfl (gc_X5_at (ar_8 hb1) hw) mX5_at lmX5_83 rfl rfl ⟨Nat.le_of_ble_eq_true rfl, Nat.le_of_ble_eq_true rfl⟩ (Nat.le_of_ble_eq_true rfl) dX5_song_97 (fun r_12 h_11 hw => ?_)
          exact gw_ireturn (ty := .int) hw rfl rfl dX5_song_100
        · have hw := hw.2 c_10
          by_cases c_13 : p2 = (3 : Int32)
          · have hw := hw.1 c_13
            refine gw_tin (k := (3 : Int32)) (off := 80) (tgt := 101) dX5_song_21 c_13 (by decide) (by decide) (by decide) (by decide) ?_
            refine gw_aload_n dX5_song_101 rfl rfl ?_
            refine gw_getf (k := 0) (v := .ref (ad 1)) oX5 clX5 inUX5 (Nat.le_of_ble_eq_true rfl) rfl lfX5_10 rfl dX5_song_102 ?_
            refine gw_getfN (k := 1) (v := .ref (ad 6)) (oX2 hb1) clX2 inUX2 (Nat.le_of_ble_eq_true rfl) rfl lfX5_70 rfl dX5_song_105 ?_
            refine gw_iload_n dX5_song_108 rfl rfl ?_
            refine gw_callVi (As := [.int p1]) (rest := []) rfl (gc_X3_fresh hb1 hw) mX3_fresh lmX5_93 (oX3 hb1) clX3 rfl rfl ⟨Nat.le_of_ble_eq_true rfl, Nat.le_of_ble_eq_true rfl⟩ (Nat.le_of_ble_eq_true rfl) dX5_song_109 (fun r_15 h_14 hw => ?_)
            exact gw_ireturn (ty := .int) hw rfl rfl dX5_song_112
          · have hw := hw.2 c_13
            by_cases c_16 : p2 = (4 : Int32)
            · have hw := hw.1 c_16
              refine gw_tin (k := (4 : Int32)) (off := 92) (tgt := 113) dX5_song_21 c_16 (by decide) (by decide) (by decide) (by decide) ?_
              refine gw_aload_n dX5_song_113 rfl rfl ?_
              refine gw_getf (k := 0) (v := .ref (ad 1)) oX5 clX5 inUX5 (Nat.le_of_ble_eq_true rfl) rfl lfX5_10 rfl dX5_song_114 ?_
              refine gw_getfN (k := 2) (v := .ref (ad 10)) (oX2 hb1) clX2 inUX2 (Nat.le_of_ble_eq_true rfl) rfl lfX5_96 rfl dX5_song_117 ?_
              refine gw_iload_n dX5_song_120 rfl rfl ?_
              refine gw_callVi (As := [.int p1]) (rest := []) rfl (gc_X1_holders hb1 hw) mX1_holders lmX5_100 (oX1 hb1) clX1 rfl rfl ⟨Nat.le_of_ble_eq_true rfl, Nat.le_of_ble_eq_true rfl⟩ (Nat.le_of_ble_eq_true rfl) dX5_song_121 (fun r_18 h_17 hw => ?_)
              exact gw_ireturn (ty := .int) hw rfl rfl dX5_song_124
            · have hw := hw.2 c_16
              refine gw_tout (tgt := 125) dX5_song_21 (by have q0 := lv_neT c_4 (a := 0) (by decide); have q1 := lv_neT c_7 (a := 1) (by decide); have q2 := lv_neT c_10 (a := 2) (by decide); have q3 := lv_neT c_13 (a := 3) (by decide); have q4 := lv_neT c_16 (a := 4) (by decide); omega) (by decide) ?_
              refine gw_aload_n dX5_song_125 rfl rfl ?_
              refine gw_bipush dX5_song_126 bp_m2 ?_
              refine gw_callVi (As := [.int (-2 : Int32)]) (rest := []) rfl (gc_X5_refuse  hw) mX5_refuse lmX5_48 oX5 clX5 rfl rfl ⟨Nat.le_of_ble_eq_true rfl, Nat.le_of_ble_eq_true rfl⟩ (Nat.le_of_ble_eq_true rfl) dX5_song_128 (fun r_20 h_19 hw => ?_)
              exact gw_ireturn (ty := .int) hw rfl rfl dX5_song_131
  · have hw := hw.2 c_3
    refine gw_aload_n dX5_song_14 rfl rfl ?_
    refine gw_iconst dX5_song_15 ic_m1 ?_
    refine gw_callVi (As := [.int (-1 : Int32)]) (rest := []) rfl (gc_X5_refuse  hw) mX5_refuse lmX5_48 oX5 clX5 rfl rfl ⟨Nat.le_of_ble_eq_true rfl, Nat.le_of_ble_eq_true rfl⟩ (Nat.le_of_ble_eq_true rfl) dX5_song_16 (fun r_22 h_21 hw => ?_)
    exact gw_ireturn (ty := .int) hw rfl rfl dX5_song_19
def wl_X5_still_13   (Q : Int32 → gw_H → Prop) : Nat → Int32 → gw_H → Prop
  | 0 => fun _ _ => False
  | n + 1 => fun x1 h => (((60 : Int32) < x1 → Q (-9 : Int32) h) ∧ (¬ (60 : Int32) < x1 → (wp_X1_holders h 24 (-1 : Int32) (fun r_4 h_3 => ((¬ r_4 = 0 → (wp_X2_passHour h_3 24 (fun r_7 h_6 => ((wl_X5_still_13   Q n) (x1 + (1 : Int32)) h_6)))) ∧ (r_4 = 0 → Q x1 h_3))))))
set_option maxRecDepth 100000 in
set_option maxHeartbeats 4000000 in
theorem tl_X5_still_13 {l : Launch} {ad : Nat → Nat} {X : gw_X}   {Q : Int32 → gw_H → Prop}   : ∀ (n : Nat) (x1 : Int32) (h : gw_H), wl_X5_still_13   Q n x1 h → gw_G l vC ad cX5_still RX5 2 (some .int) 4 124 Q X h 13 [some (.ref (ad 0)), some (.int x1)] [] := by
  intro n
  induction n with
  | zero => intro x1 h hw; exact hw.elim
  | succ n ih =>
    intro x1 h hw
    unfold wl_X5_still_13 at hw
    refine gw_iload_n dX5_still_13 rfl rfl ?_
    refine gw_bipush dX5_still_14 bp_60 ?_
    refine gw_icmp_gt (tgt := 49) dX5_still_16 (by decide) (fun c_2 => ?_) (fun c_2 => ?_)
    · have hw := hw.1 c_2
      refine gw_bipush dX5_still_49 bp_m9 ?_
      exact gw_ireturn (ty := .int) hw rfl rfl dX5_still_51
    · have hw := hw.2 c_2
      refine gw_aload_n dX5_still_19 rfl rfl ?_
      refine gw_getf (k := 1) (v := .ref (ad 24)) oX5 clX5 inUX5 (Nat.le_of_ble_eq_true rfl) rfl lfX5_16 rfl dX5_still_20 ?_
      refine gw_getfN (k := 2) (v := .ref (ad 33)) (oX2 hb24) clX2 inUX2 (Nat.le_of_ble_eq_true rfl) rfl lfX5_96 rfl dX5_still_23 ?_
      refine gw_iconst dX5_still_26 ic_m1 ?_
      refine gw_callVi (As := [.int (-1 : Int32)]) (rest := []) rfl (gc_X1_holders hb24 hw) mX1_holders lmX5_100 (oX1 hb24) clX1 rfl rfl ⟨Nat.le_of_ble_eq_true rfl, Nat.le_of_ble_eq_true rfl⟩ (Nat.le_of_ble_eq_true rfl) dX5_still_27 (fun r_4 h_3 hw => ?_)
      refine gw_if_ne (tgt := 35) dX5_still_30 (by decide) (fun c_5 => ?_) (fun c_5 => ?_)
      · have hw := hw.1 c_5
        refine gw_aload_n dX5_still_35 rfl rfl ?_
        refine gw_getf (k := 1) (v := .ref (ad 24)) oX5 clX5 inUX5 (Nat.le_of_ble_eq_true rfl) rfl lfX5_16 rfl dX5_still_36 ?_
        refine gw_callVi (As := []) (rest := []) rfl (gc_X2_passHour hb24 hw) mX2_passHour lmX5_165 (oX2 hb24) clX2 rfl rfl ⟨Nat.le_of_ble_eq_true rfl, Nat.le_of_ble_eq_true rfl⟩ (Nat.le_of_ble_eq_true rfl) dX5_still_39 (fun r_7 h_6 hw => ?_)
        refine gw_pop dX5_still_42 rfl ?_
        refine gw_iinc (ls' := [some (.ref (ad 0)), some (.int (x1 + (1 : Int32)))]) dX5_still_43 rfl (congrArg (fun z => x1 + z) ic_1) (Nat.le_of_ble_eq_true rfl) rfl ?_
        refine gw_goto (tgt := 13) dX5_still_46 (by decide) ?_
        exact ih (x1 + (1 : Int32)) h_6 hw
      · have hw := hw.2 c_5
        refine gw_iload_n dX5_still_33 rfl rfl ?_
        exact gw_ireturn (ty := .int) hw rfl rfl dX5_still_34
def wp_X5_still (h : gw_H)  (Q : Int32 → gw_H → Prop) : Prop :=
  (wp_X2_takeAs h 24 1 (fun _ h_1 => (∃ n_8 : Nat, wl_X5_still_13   Q n_8 (0 : Int32) h_1)))
set_option maxRecDepth 100000 in
set_option maxHeartbeats 4000000 in
theorem gc_X5_still {l : Launch} {ad : Nat → Nat} {h : gw_H}  {Q : Int32 → gw_H → Prop}  (hw : wp_X5_still h  Q) : gw_C l yX5_still cX5_still 2 (some .int) 4 124 vC ad [.ref (ad 0)] h Q := by
  refine gw_entry (own := RX5) [some (.ref (ad 0)), none] pl_X5 rfl rfl (Nat.le_of_ble_eq_true rfl) rfl (fun X => ?_)
  unfold wp_X5_still at hw
  refine gw_aload_n dX5_still_0 rfl rfl ?_
  refine gw_getf (k := 1) (v := .ref (ad 24)) oX5 clX5 inUX5 (Nat.le_of_ble_eq_true rfl) rfl lfX5_16 rfl dX5_still_1 ?_
  refine gw_aload_n dX5_still_4 rfl rfl ?_
  refine gw_getf (k := 0) (v := .ref (ad 1)) oX5 clX5 inUX5 (Nat.le_of_ble_eq_true rfl) rfl lfX5_10 rfl dX5_still_5 ?_
  refine gw_callVv (As := [.ref (ad 1)]) (rest := []) rfl (gc_X2_takeAs hb24 hb1 hw) mX2_takeAs lmX5_181 (oX2 hb24) clX2 rfl rfl ⟨Nat.le_of_ble_eq_true rfl, Nat.le_of_ble_eq_true rfl⟩ (Nat.le_of_ble_eq_true rfl) dX5_still_8 (fun h_1 hw => ?_)
  refine gw_iconst dX5_still_11 ic_0 ?_
  refine gw_istore_n (ls' := [some (.ref (ad 0)), some (.int (0 : Int32))]) dX5_still_12 rfl (Nat.le_of_ble_eq_true rfl) rfl ?_
  obtain ⟨n_8, hw⟩ := hw
  exact tl_X5_still_13   n_8 (0 : Int32) h_1 hw
def wk_X5_takes_28 (p1 : Int32) (p2 : Int32)  (Q : Int32 → gw_H → Prop) : gw_H → Prop :=
  fun h => (wp_X5_refuse h (-1 : Int32) (fun r_5 h_4 => Q r_5 h_4))
set_option maxRecDepth 100000 in
set_option maxHeartbeats 4000000 in
theorem tk_X5_takes_28 {l : Launch} {ad : Nat → Nat} {X : gw_X} {p1 : Int32} {p2 : Int32}  {Q : Int32 → gw_H → Prop}    (h : gw_H) (hw : wk_X5_takes_28 p1 p2  Q h) : gw_G l vC ad cX5_takes RX5 4 (some .int) 4 124 Q X h 28 [some (.ref (ad 0)), some (.int p1), some (.int p2), none] [] := by
  unfold wk_X5_takes_28 at hw
  refine gw_aload_n dX5_takes_28 rfl rfl ?_
  refine gw_iconst dX5_takes_29 ic_m1 ?_
  refine gw_callVi (As := [.int (-1 : Int32)]) (rest := []) rfl (gc_X5_refuse  hw) mX5_refuse lmX5_48 oX5 clX5 rfl rfl ⟨Nat.le_of_ble_eq_true rfl, Nat.le_of_ble_eq_true rfl⟩ (Nat.le_of_ble_eq_true rfl) dX5_takes_30 (fun r_5 h_4 hw => ?_)
  exact gw_ireturn (ty := .int) hw rfl rfl dX5_takes_33
def wl_X5_takes_47 (p1 : Int32) (p2 : Int32)  (Q : Int32 → gw_H → Prop) : Nat → Int32 → gw_H → Prop
  | 0 => fun _ _ => False
  | n + 1 => fun x3 h => (((60 : Int32) < x3 → Q (-9 : Int32) h) ∧ (¬ (60 : Int32) < x3 → (wp_X5_at h (37) 6 p1 (fun r_12 h_11 => ((¬ r_12 = p2 → (wp_X2_passHour h_11 24 (fun r_15 h_14 => ((wl_X5_takes_47 p1 p2  Q n) (x3 + (1 : Int32)) h_14)))) ∧ (r_12 = p2 → Q x3 h_11))))))
set_option maxRecDepth 100000 in
set_option maxHeartbeats 4000000 in
theorem tl_X5_takes_47 {l : Launch} {ad : Nat → Nat} {X : gw_X} {p1 : Int32} {p2 : Int32}  {Q : Int32 → gw_H → Prop}   : ∀ (n : Nat) (x3 : Int32) (h : gw_H), wl_X5_takes_47 p1 p2  Q n x3 h → gw_G l vC ad cX5_takes RX5 4 (some .int) 4 124 Q X h 47 [some (.ref (ad 0)), some (.int p1), some (.int p2), some (.int x3)] [] := by
  intro n
  induction n with
  | zero => intro x3 h hw; exact hw.elim
  | succ n ih =>
    intro x3 h hw
    unfold wl_X5_takes_47 at hw
    refine gw_iload_n dX5_takes_47 rfl rfl ?_
    refine gw_bipush dX5_takes_48 bp_60 ?_
    refine gw_icmp_gt (tgt := 87) dX5_takes_50 (by decide) (fun c_10 => ?_) (fun c_10 => ?_)
    · have hw := hw.1 c_10
      refine gw_bipush dX5_takes_87 bp_m9 ?_
      exact gw_ireturn (ty := .int) hw rfl rfl dX5_takes_89
    · have hw := hw.2 c_10
      refine gw_aload_n dX5_takes_53 rfl rfl ?_
      refine gw_getf (k := 1) (v := .ref (ad 24)) oX5 clX5 inUX5 (Nat.le_of_ble_eq_true rfl) rfl lfX5_16 rfl dX5_takes_54 ?_
      refine gw_getfN (k := 2) (v := .ref (ad 33)) (oX2 hb24) clX2 inUX2 (Nat.le_of_ble_eq_true rfl) rfl lfX5_96 rfl dX5_takes_57 ?_
      refine gw_getfN (k := 3) (v := .ref (ad 37)) (oX1 hb24) clX1 inUX1 (Nat.le_of_ble_eq_true rfl) rfl lfX5_113 rfl dX5_takes_60 ?_
      refine gw_iload_n dX5_takes_63 rfl rfl ?_
      refine gw_callSi (As := [.ref (ad 37), .int p1]) (rest := []) rfl (gc_X5_at (ar_13 hb24) hw) mX5_at lmX5_83 rfl rfl ⟨Nat.le_of_ble_eq_true rfl, Nat.le_of_ble_eq_true rfl⟩ (Nat.le_of_ble_eq_true rfl) dX5_takes_64 (fun r_12 h_11 hw => ?_)
      refine gw_iload_n dX5_takes_67 rfl rfl ?_
      refine gw_icmp_ne (tgt := 73) dX5_takes_68 (by decide) (fun c_13 => ?_) (fun c_13 => ?_)
      · have hw := hw.1 c_13
        refine gw_aload_n dX5_takes_73 rfl rfl ?_
        refine gw_getf (k := 1) (v := .ref (ad 24)) oX5 clX5 inUX5 (Nat.le_of_ble_eq_true rfl) rfl lfX5_16 rfl dX5_takes_74 ?_
        refine gw_callVi (As := []) (rest := []) rfl (gc_X2_passHour hb24 hw) mX2_passHour lmX5_165 (oX2 hb24) clX2 rfl rfl ⟨Nat.le_of_ble_eq_true rfl, Nat.le_of_ble_eq_true rfl⟩ (Nat.le_of_ble_eq_true rfl) dX5_takes_77 (fun r_15 h_14 hw => ?_)
        refine gw_pop dX5_takes_80 rfl ?_
        refine gw_iinc (ls' := [some (.ref (ad 0)), some (.int p1), some (.int p2), some (.int (x3 + (1 : Int32)))]) dX5_takes_81 rfl (congrArg (fun z => x3 + z) ic_1) (Nat.le_of_ble_eq_true rfl) rfl ?_
        refine gw_goto (tgt := 47) dX5_takes_84 (by decide) ?_
        exact ih (x3 + (1 : Int32)) h_14 hw
      · have hw := hw.2 c_13
        refine gw_iload_n dX5_takes_71 rfl rfl ?_
        exact gw_ireturn (ty := .int) hw rfl rfl dX5_takes_72
def wp_X5_takes (h : gw_H) (p1 : Int32) (p2 : Int32) (Q : Int32 → gw_H → Prop) : Prop :=
  (wp_X1_has h 1 p1 (fun r_2 h_1 => ((r_2 = 0 → (wk_X5_takes_28 p1 p2  Q h_1)) ∧ (¬ r_2 = 0 → (wp_X3_has h_1 1 p2 (fun r_7 h_6 => ((¬ r_7 = 0 → (wp_X2_takeAs h_6 24 1 (fun _ h_9 => (∃ n_16 : Nat, wl_X5_takes_47 p1 p2  Q n_16 (0 : Int32) h_9)))) ∧ (r_7 = 0 → (wk_X5_takes_28 p1 p2  Q h_6)))))))))
set_option maxRecDepth 100000 in
set_option maxHeartbeats 4000000 in
theorem gc_X5_takes {l : Launch} {ad : Nat → Nat} {h : gw_H} {p1 : Int32} {p2 : Int32} {Q : Int32 → gw_H → Prop}  (hw : wp_X5_takes h p1 p2 Q) : gw_C l yX5_takes cX5_takes 4 (some .int) 4 124 vC ad [.ref (ad 0), .int p1, .int p2] h Q := by
  refine gw_entry (own := RX5) [some (.ref (ad 0)), some (.int p1), some (.int p2), none] pl_X5 rfl rfl (Nat.le_of_ble_eq_true rfl) rfl (fun X => ?_)
  unfold wp_X5_takes at hw
  refine gw_aload_n dX5_takes_0 rfl rfl ?_
  refine gw_getf (k := 0) (v := .ref (ad 1)) oX5 clX5 inUX5 (Nat.le_of_ble_eq_true rfl) rfl lfX5_10 rfl dX5_takes_1 ?_
  refine gw_getfN (k := 2) (v := .ref (ad 10)) (oX2 hb1) clX2 inUX2 (Nat.le_of_ble_eq_true rfl) rfl lfX5_96 rfl dX5_takes_4 ?_
  refine gw_iload_n dX5_takes_7 rfl rfl ?_
  refine gw_callVi (As := [.int p1]) (rest := []) rfl (gc_X1_has hb1 hw) mX1_has lmX5_105 (oX1 hb1) clX1 rfl rfl ⟨Nat.le_of_ble_eq_true rfl, Nat.le_of_ble_eq_true rfl⟩ (Nat.le_of_ble_eq_true rfl) dX5_takes_8 (fun r_2 h_1 hw => ?_)
  refine gw_if_eq (tgt := 28) dX5_takes_11 (by decide) (fun c_3 => ?_) (fun c_3 => ?_)
  · have hw := hw.1 c_3
    exact tk_X5_takes_28   h_1 hw
  · have hw := hw.2 c_3
    refine gw_aload_n dX5_takes_14 rfl rfl ?_
    refine gw_getf (k := 0) (v := .ref (ad 1)) oX5 clX5 inUX5 (Nat.le_of_ble_eq_true rfl) rfl lfX5_10 rfl dX5_takes_15 ?_
    refine gw_getfN (k := 1) (v := .ref (ad 6)) (oX2 hb1) clX2 inUX2 (Nat.le_of_ble_eq_true rfl) rfl lfX5_70 rfl dX5_takes_18 ?_
    refine gw_iload_n dX5_takes_21 rfl rfl ?_
    refine gw_callVi (As := [.int p2]) (rest := []) rfl (gc_X3_has hb1 hw) mX3_has lmX5_74 (oX3 hb1) clX3 rfl rfl ⟨Nat.le_of_ble_eq_true rfl, Nat.le_of_ble_eq_true rfl⟩ (Nat.le_of_ble_eq_true rfl) dX5_takes_22 (fun r_7 h_6 hw => ?_)
    refine gw_if_ne (tgt := 34) dX5_takes_25 (by decide) (fun c_8 => ?_) (fun c_8 => ?_)
    · have hw := hw.1 c_8
      refine gw_aload_n dX5_takes_34 rfl rfl ?_
      refine gw_getf (k := 1) (v := .ref (ad 24)) oX5 clX5 inUX5 (Nat.le_of_ble_eq_true rfl) rfl lfX5_16 rfl dX5_takes_35 ?_
      refine gw_aload_n dX5_takes_38 rfl rfl ?_
      refine gw_getf (k := 0) (v := .ref (ad 1)) oX5 clX5 inUX5 (Nat.le_of_ble_eq_true rfl) rfl lfX5_10 rfl dX5_takes_39 ?_
      refine gw_callVv (As := [.ref (ad 1)]) (rest := []) rfl (gc_X2_takeAs hb24 hb1 hw) mX2_takeAs lmX5_181 (oX2 hb24) clX2 rfl rfl ⟨Nat.le_of_ble_eq_true rfl, Nat.le_of_ble_eq_true rfl⟩ (Nat.le_of_ble_eq_true rfl) dX5_takes_42 (fun h_9 hw => ?_)
      refine gw_iconst dX5_takes_45 ic_0 ?_
      refine gw_istore_n (ls' := [some (.ref (ad 0)), some (.int p1), some (.int p2), some (.int (0 : Int32))]) dX5_takes_46 rfl (Nat.le_of_ble_eq_true rfl) rfl ?_
      obtain ⟨n_16, hw⟩ := hw
      exact tl_X5_takes_47   n_16 (0 : Int32) h_9 hw
    · have hw := hw.2 c_8
      exact tk_X5_takes_28   h_6 hw
def wk_X5_write_139 (p1 : Int32) (p2 : Int32) (p3 : Int32) (K89 : Int32 → Int32 → Int32 → gw_H → Prop) (K99 : Int32 → Int32 → Int32 → Int32 → gw_H → Prop) (Q : Int32 → gw_H → Prop) : Int32 → Int32 → Int32 → Int32 → gw_H → Prop :=
  fun x5 x6 x7 x8 h => (K99 x5 x6 x7 (x8 + (1 : Int32)) h)
set_option maxRecDepth 100000 in
set_option maxHeartbeats 4000000 in
theorem tk_X5_write_139 {l : Launch} {ad : Nat → Nat} {X : gw_X} {p1 : Int32} {p2 : Int32} {p3 : Int32} {K89 : Int32 → Int32 → Int32 → gw_H → Prop} {K99 : Int32 → Int32 → Int32 → Int32 → gw_H → Prop} {Q : Int32 → gw_H → Prop}  (hK89 : ∀ (y5 : Int32) (y6 : Int32) (y7 : Int32) (h : gw_H), K89 y5 y6 y7 h → gw_G l vC ad cX5_write RX5 10 (some .int) 6 149 Q X h 89 [some (.ref (ad 0)), some (.int p1), some (.int p2), some (.int p3), none, some (.int y5), some (.int y6), some (.int y7), none, none] []) (hK99 : ∀ (y5 : Int32) (y6 : Int32) (y7 : Int32) (y8 : Int32) (h : gw_H), K99 y5 y6 y7 y8 h → gw_G l vC ad cX5_write RX5 10 (some .int) 6 149 Q X h 99 [some (.ref (ad 0)), some (.int p1), some (.int p2), some (.int p3), none, some (.int y5), some (.int y6), some (.int y7), some (.int y8), none] []) (x5 : Int32) (x6 : Int32) (x7 : Int32) (x8 : Int32) (h : gw_H) (hw : wk_X5_write_139 p1 p2 p3 K89 K99 Q x5 x6 x7 x8 h) : gw_G l vC ad cX5_write RX5 10 (some .int) 6 149 Q X h 139 [some (.ref (ad 0)), some (.int p1), some (.int p2), some (.int p3), none, some (.int x5), some (.int x6), some (.int x7), some (.int x8), none] [] := by
  unfold wk_X5_write_139 at hw
  refine gw_iinc (ls' := [some (.ref (ad 0)), some (.int p1), some (.int p2), some (.int p3), none, some (.int x5), some (.int x6), some (.int x7), some (.int (x8 + (1 : Int32))), none]) dX5_write_139 rfl (congrArg (fun z => x8 + z) ic_1) (Nat.le_of_ble_eq_true rfl) rfl ?_
  refine gw_goto (tgt := 99) dX5_write_142 (by decide) ?_
  exact hK99 x5 x6 x7 (x8 + (1 : Int32)) h hw
def wl_X5_write_99 (p1 : Int32) (p2 : Int32) (p3 : Int32) (K89 : Int32 → Int32 → Int32 → gw_H → Prop) (Q : Int32 → gw_H → Prop) : Nat → Int32 → Int32 → Int32 → Int32 → gw_H → Prop
  | 0 => fun _ _ _ _ _ => False
  | n + 1 => fun x5 x6 x7 x8 h => (((9 : Int32) < x8 → (K89 x5 x6 (x7 + (1 : Int32)) h)) ∧ (¬ (9 : Int32) < x8 → (wp_X5_holdersIfWritten h x7 x8 p1 p2 (fun r_11 h_10 => ((r_11 ≤ x5 → (wk_X5_write_139 p1 p2 p3 K89 (wl_X5_write_99 p1 p2 p3 K89 Q n) Q x5 x6 x7 x8 h_10)) ∧ (¬ r_11 ≤ x5 → (wk_X5_write_139 p1 p2 p3 K89 (wl_X5_write_99 p1 p2 p3 K89 Q n) Q r_11 (((10 : Int32) * x7) + x8) x7 x8 h_10)))))))
set_option maxRecDepth 100000 in
set_option maxHeartbeats 4000000 in
theorem tl_X5_write_99 {l : Launch} {ad : Nat → Nat} {X : gw_X} {p1 : Int32} {p2 : Int32} {p3 : Int32} {K89 : Int32 → Int32 → Int32 → gw_H → Prop} {Q : Int32 → gw_H → Prop}  (hK89 : ∀ (y5 : Int32) (y6 : Int32) (y7 : Int32) (h : gw_H), K89 y5 y6 y7 h → gw_G l vC ad cX5_write RX5 10 (some .int) 6 149 Q X h 89 [some (.ref (ad 0)), some (.int p1), some (.int p2), some (.int p3), none, some (.int y5), some (.int y6), some (.int y7), none, none] []) : ∀ (n : Nat) (x5 : Int32) (x6 : Int32) (x7 : Int32) (x8 : Int32) (h : gw_H), wl_X5_write_99 p1 p2 p3 K89 Q n x5 x6 x7 x8 h → gw_G l vC ad cX5_write RX5 10 (some .int) 6 149 Q X h 99 [some (.ref (ad 0)), some (.int p1), some (.int p2), some (.int p3), none, some (.int x5), some (.int x6), some (.int x7), some (.int x8), none] [] := by
  intro n
  induction n with
  | zero => intro x5 x6 x7 x8 h hw; exact hw.elim
  | succ n ih =>
    intro x5 x6 x7 x8 h hw
    unfold wl_X5_write_99 at hw
    refine gw_iload dX5_write_99 rfl ?_
    refine gw_bipush dX5_write_101 bp_9 ?_
    refine gw_icmp_gt (tgt := 145) dX5_write_103 (by decide) (fun c_9 => ?_) (fun c_9 => ?_)
    · have hw := hw.1 c_9
      refine gw_iinc (ls' := [some (.ref (ad 0)), some (.int p1), some (.int p2), some (.int p3), none, some (.int x5), some (.int x6), some (.int (x7 + (1 : Int32))), some (.int x8), none]) dX5_write_145 rfl (congrArg (fun z => x7 + z) ic_1) (Nat.le_of_ble_eq_true rfl) rfl ?_
      refine gw_goto (tgt := 89) dX5_write_148 (by decide) ?_
      refine gw_forget (ls' := [some (.ref (ad 0)), some (.int p1), some (.int p2), some (.int p3), none, some (.int x5), some (.int x6), some (.int (x7 + (1 : Int32))), none, none]) (gw_sub.s (gw_sub.s (gw_sub.s (gw_sub.s (gw_sub.n (gw_sub.s (gw_sub.s (gw_sub.s (gw_sub.n (gw_sub.n gw_sub.z)))))))))) ?_
      exact hK89 x5 x6 (x7 + (1 : Int32)) h hw
    · have hw := hw.2 c_9
      refine gw_aload_n dX5_write_106 rfl rfl ?_
      refine gw_iload dX5_write_107 rfl ?_
      refine gw_iload dX5_write_109 rfl ?_
      refine gw_iload_n dX5_write_111 rfl rfl ?_
      refine gw_iload_n dX5_write_112 rfl rfl ?_
      refine gw_callVi (As := [.int x7, .int x8, .int p1, .int p2]) (rest := []) rfl (gc_X5_holdersIfWritten  hw) mX5_holdersIfWritten lmX5_210 oX5 clX5 rfl rfl ⟨Nat.le_of_ble_eq_true rfl, Nat.le_of_ble_eq_true rfl⟩ (Nat.le_of_ble_eq_true rfl) dX5_write_113 (fun r_11 h_10 hw => ?_)
      refine gw_istore (ls' := [some (.ref (ad 0)), some (.int p1), some (.int p2), some (.int p3), none, some (.int x5), some (.int x6), some (.int x7), some (.int x8), some (.int r_11)]) dX5_write_116 (Nat.le_of_ble_eq_true rfl) rfl ?_
      refine gw_iload dX5_write_118 rfl ?_
      refine gw_iload dX5_write_120 rfl ?_
      refine gw_icmp_le (tgt := 139) dX5_write_122 (by decide) (fun c_12 => ?_) (fun c_12 => ?_)
      · have hw := hw.1 c_12
        refine gw_forget (ls' := [some (.ref (ad 0)), some (.int p1), some (.int p2), some (.int p3), none, some (.int x5), some (.int x6), some (.int x7), some (.int x8), none]) (gw_sub.s (gw_sub.s (gw_sub.s (gw_sub.s (gw_sub.n (gw_sub.s (gw_sub.s (gw_sub.s (gw_sub.s (gw_sub.n gw_sub.z)))))))))) ?_
        exact tk_X5_write_139  hK89  ih x5 x6 x7 x8 h_10 hw
      · have hw := hw.2 c_12
        refine gw_iload dX5_write_125 rfl ?_
        refine gw_istore (ls' := [some (.ref (ad 0)), some (.int p1), some (.int p2), some (.int p3), none, some (.int r_11), some (.int x6), some (.int x7), some (.int x8), some (.int r_11)]) dX5_write_127 (Nat.le_of_ble_eq_true rfl) rfl ?_
        refine gw_bipush dX5_write_129 bp_10 ?_
        refine gw_iload dX5_write_131 rfl ?_
        refine gw_imul dX5_write_133 ?_
        refine gw_iload dX5_write_134 rfl ?_
        refine gw_iadd dX5_write_136 ?_
        refine gw_istore (ls' := [some (.ref (ad 0)), some (.int p1), some (.int p2), some (.int p3), none, some (.int r_11), some (.int (((10 : Int32) * x7) + x8)), some (.int x7), some (.int x8), some (.int r_11)]) dX5_write_137 (Nat.le_of_ble_eq_true rfl) rfl ?_
        refine gw_forget (ls' := [some (.ref (ad 0)), some (.int p1), some (.int p2), some (.int p3), none, some (.int r_11), some (.int (((10 : Int32) * x7) + x8)), some (.int x7), some (.int x8), none]) (gw_sub.s (gw_sub.s (gw_sub.s (gw_sub.s (gw_sub.n (gw_sub.s (gw_sub.s (gw_sub.s (gw_sub.s (gw_sub.n gw_sub.z)))))))))) ?_
        exact tk_X5_write_139  hK89  ih r_11 (((10 : Int32) * x7) + x8) x7 x8 h_10 hw
def wl_X5_write_89 (p1 : Int32) (p2 : Int32) (p3 : Int32)  (Q : Int32 → gw_H → Prop) : Nat → Int32 → Int32 → Int32 → gw_H → Prop
  | 0 => fun _ _ _ _ => False
  | n + 1 => fun x5 x6 x7 h => (((6 : Int32) ≤ x7 → ((¬ p3 = 0 → Q x5 h) ∧ (p3 = 0 → Q x6 h))) ∧ (¬ (6 : Int32) ≤ x7 → (∃ n_13 : Nat, wl_X5_write_99 p1 p2 p3 (wl_X5_write_89 p1 p2 p3  Q n) Q n_13 x5 x6 x7 (0 : Int32) h)))
set_option maxRecDepth 100000 in
set_option maxHeartbeats 4000000 in
theorem tl_X5_write_89 {l : Launch} {ad : Nat → Nat} {X : gw_X} {p1 : Int32} {p2 : Int32} {p3 : Int32}  {Q : Int32 → gw_H → Prop}   : ∀ (n : Nat) (x5 : Int32) (x6 : Int32) (x7 : Int32) (h : gw_H), wl_X5_write_89 p1 p2 p3  Q n x5 x6 x7 h → gw_G l vC ad cX5_write RX5 10 (some .int) 6 149 Q X h 89 [some (.ref (ad 0)), some (.int p1), some (.int p2), some (.int p3), none, some (.int x5), some (.int x6), some (.int x7), none, none] [] := by
  intro n
  induction n with
  | zero => intro x5 x6 x7 h hw; exact hw.elim
  | succ n ih =>
    intro x5 x6 x7 h hw
    unfold wl_X5_write_89 at hw
    refine gw_iload dX5_write_89 rfl ?_
    refine gw_bipush dX5_write_91 bp_6 ?_
    refine gw_icmp_ge (tgt := 151) dX5_write_93 (by decide) (fun c_7 => ?_) (fun c_7 => ?_)
    · have hw := hw.1 c_7
      refine gw_iload_n dX5_write_151 rfl rfl ?_
      refine gw_if_ne (tgt := 160) dX5_write_152 (by decide) (fun c_8 => ?_) (fun c_8 => ?_)
      · have hw := hw.1 c_8
        refine gw_iload dX5_write_160 rfl ?_
        exact gw_ireturn (ty := .int) hw rfl rfl dX5_write_162
      · have hw := hw.2 c_8
        refine gw_iload dX5_write_155 rfl ?_
        refine gw_goto (tgt := 162) dX5_write_157 (by decide) ?_
        exact gw_ireturn (ty := .int) hw rfl rfl dX5_write_162
    · have hw := hw.2 c_7
      refine gw_iconst dX5_write_96 ic_0 ?_
      refine gw_istore (ls' := [some (.ref (ad 0)), some (.int p1), some (.int p2), some (.int p3), none, some (.int x5), some (.int x6), some (.int x7), some (.int (0 : Int32)), none]) dX5_write_97 (Nat.le_of_ble_eq_true rfl) rfl ?_
      obtain ⟨n_13, hw⟩ := hw
      exact tl_X5_write_99  ih n_13 x5 x6 x7 (0 : Int32) h hw
def wk_X5_write_67 (p1 : Int32) (p2 : Int32) (p3 : Int32)  (Q : Int32 → gw_H → Prop) : Int32 → gw_H → Prop :=
  fun x4 h => ((x4 = 0 → (∃ n_14 : Nat, wl_X5_write_89 p1 p2 p3  Q n_14 (-1 : Int32) (-9 : Int32) (0 : Int32) h)) ∧ (¬ x4 = 0 → (wp_X5_refuse h x4 (fun r_16 h_15 => Q r_16 h_15))))
set_option maxRecDepth 100000 in
set_option maxHeartbeats 4000000 in
theorem tk_X5_write_67 {l : Launch} {ad : Nat → Nat} {X : gw_X} {p1 : Int32} {p2 : Int32} {p3 : Int32}  {Q : Int32 → gw_H → Prop}   (x4 : Int32) (h : gw_H) (hw : wk_X5_write_67 p1 p2 p3  Q x4 h) : gw_G l vC ad cX5_write RX5 10 (some .int) 6 149 Q X h 67 [some (.ref (ad 0)), some (.int p1), some (.int p2), some (.int p3), some (.int x4), none, none, none, none, none] [] := by
  unfold wk_X5_write_67 at hw
  refine gw_iload dX5_write_67 rfl ?_
  refine gw_if_eq (tgt := 79) dX5_write_69 (by decide) (fun c_6 => ?_) (fun c_6 => ?_)
  · have hw := hw.1 c_6
    refine gw_iconst dX5_write_79 ic_m1 ?_
    refine gw_istore (ls' := [some (.ref (ad 0)), some (.int p1), some (.int p2), some (.int p3), some (.int x4), some (.int (-1 : Int32)), none, none, none, none]) dX5_write_80 (Nat.le_of_ble_eq_true rfl) rfl ?_
    refine gw_bipush dX5_write_82 bp_m9 ?_
    refine gw_istore (ls' := [some (.ref (ad 0)), some (.int p1), some (.int p2), some (.int p3), some (.int x4), some (.int (-1 : Int32)), some (.int (-9 : Int32)), none, none, none]) dX5_write_84 (Nat.le_of_ble_eq_true rfl) rfl ?_
    refine gw_iconst dX5_write_86 ic_0 ?_
    refine gw_istore (ls' := [some (.ref (ad 0)), some (.int p1), some (.int p2), some (.int p3), some (.int x4), some (.int (-1 : Int32)), some (.int (-9 : Int32)), some (.int (0 : Int32)), none, none]) dX5_write_87 (Nat.le_of_ble_eq_true rfl) rfl ?_
    refine gw_forget (ls' := [some (.ref (ad 0)), some (.int p1), some (.int p2), some (.int p3), none, some (.int (-1 : Int32)), some (.int (-9 : Int32)), some (.int (0 : Int32)), none, none]) (gw_sub.s (gw_sub.s (gw_sub.s (gw_sub.s (gw_sub.n (gw_sub.s (gw_sub.s (gw_sub.s (gw_sub.n (gw_sub.n gw_sub.z)))))))))) ?_
    obtain ⟨n_14, hw⟩ := hw
    exact tl_X5_write_89   n_14 (-1 : Int32) (-9 : Int32) (0 : Int32) h hw
  · have hw := hw.2 c_6
    refine gw_aload_n dX5_write_72 rfl rfl ?_
    refine gw_iload dX5_write_73 rfl ?_
    refine gw_callVi (As := [.int x4]) (rest := []) rfl (gc_X5_refuse  hw) mX5_refuse lmX5_48 oX5 clX5 rfl rfl ⟨Nat.le_of_ble_eq_true rfl, Nat.le_of_ble_eq_true rfl⟩ (Nat.le_of_ble_eq_true rfl) dX5_write_75 (fun r_16 h_15 hw => ?_)
    exact gw_ireturn (ty := .int) hw rfl rfl dX5_write_78
def wk_X5_write_45 (p1 : Int32) (p2 : Int32) (p3 : Int32)  (Q : Int32 → gw_H → Prop) : Int32 → gw_H → Prop :=
  fun x4 h => ((¬ x4 = 0 → (wk_X5_write_67 p1 p2 p3  Q x4 h)) ∧ (x4 = 0 → ((¬ (h 10 8) = 0 → (wk_X5_write_67 p1 p2 p3  Q x4 h)) ∧ ((h 10 8) = 0 → (wk_X5_write_67 p1 p2 p3  Q (-3 : Int32) h)))))
set_option maxRecDepth 100000 in
set_option maxHeartbeats 4000000 in
theorem tk_X5_write_45 {l : Launch} {ad : Nat → Nat} {X : gw_X} {p1 : Int32} {p2 : Int32} {p3 : Int32}  {Q : Int32 → gw_H → Prop}   (x4 : Int32) (h : gw_H) (hw : wk_X5_write_45 p1 p2 p3  Q x4 h) : gw_G l vC ad cX5_write RX5 10 (some .int) 6 149 Q X h 45 [some (.ref (ad 0)), some (.int p1), some (.int p2), some (.int p3), some (.int x4), none, none, none, none, none] [] := by
  unfold wk_X5_write_45 at hw
  refine gw_iload dX5_write_45 rfl ?_
  refine gw_if_ne (tgt := 67) dX5_write_47 (by decide) (fun c_5 => ?_) (fun c_5 => ?_)
  · have hw := hw.1 c_5
    exact tk_X5_write_67   x4 h hw
  · have hw := hw.2 c_5
    refine gw_aload_n dX5_write_50 rfl rfl ?_
    refine gw_getf (k := 0) (v := .ref (ad 1)) oX5 clX5 inUX5 (Nat.le_of_ble_eq_true rfl) rfl lfX5_10 rfl dX5_write_51 ?_
    refine gw_getfN (k := 2) (v := .ref (ad 10)) (oX2 hb1) clX2 inUX2 (Nat.le_of_ble_eq_true rfl) rfl lfX5_96 rfl dX5_write_54 ?_
    refine gw_getfN (k := 8) (v := .int (h 10 8)) (oX1 hb1) clX1 inUX1 (Nat.le_of_ble_eq_true rfl) rfl lfX5_202 rfl dX5_write_57 ?_
    refine gw_if_ne (tgt := 67) dX5_write_60 (by decide) (fun c_17 => ?_) (fun c_17 => ?_)
    · have hw := hw.1 c_17
      exact tk_X5_write_67   x4 h hw
    · have hw := hw.2 c_17
      refine gw_bipush dX5_write_63 bp_m3 ?_
      refine gw_istore (ls' := [some (.ref (ad 0)), some (.int p1), some (.int p2), some (.int p3), some (.int (-3 : Int32)), none, none, none, none, none]) dX5_write_65 (Nat.le_of_ble_eq_true rfl) rfl ?_
      exact tk_X5_write_67   (-3 : Int32) h hw
def wk_X5_write_29 (p1 : Int32) (p2 : Int32) (p3 : Int32)  (Q : Int32 → gw_H → Prop) : Int32 → gw_H → Prop :=
  fun x4 h => ((¬ x4 = 0 → (wk_X5_write_45 p1 p2 p3  Q x4 h)) ∧ (x4 = 0 → (wp_X5_isNeither h p3 (fun r_19 h_18 => ((r_19 = 0 → (wk_X5_write_45 p1 p2 p3  Q x4 h_18)) ∧ (¬ r_19 = 0 → (wk_X5_write_45 p1 p2 p3  Q (-2 : Int32) h_18)))))))
set_option maxRecDepth 100000 in
set_option maxHeartbeats 4000000 in
theorem tk_X5_write_29 {l : Launch} {ad : Nat → Nat} {X : gw_X} {p1 : Int32} {p2 : Int32} {p3 : Int32}  {Q : Int32 → gw_H → Prop}   (x4 : Int32) (h : gw_H) (hw : wk_X5_write_29 p1 p2 p3  Q x4 h) : gw_G l vC ad cX5_write RX5 10 (some .int) 6 149 Q X h 29 [some (.ref (ad 0)), some (.int p1), some (.int p2), some (.int p3), some (.int x4), none, none, none, none, none] [] := by
  unfold wk_X5_write_29 at hw
  refine gw_iload dX5_write_29 rfl ?_
  refine gw_if_ne (tgt := 45) dX5_write_31 (by decide) (fun c_4 => ?_) (fun c_4 => ?_)
  · have hw := hw.1 c_4
    exact tk_X5_write_45   x4 h hw
  · have hw := hw.2 c_4
    refine gw_iload_n dX5_write_34 rfl rfl ?_
    refine gw_callSi (As := [.int p3]) (rest := []) rfl (gc_X5_isNeither  hw) mX5_isNeither lmX5_172 rfl rfl ⟨Nat.le_of_ble_eq_true rfl, Nat.le_of_ble_eq_true rfl⟩ (Nat.le_of_ble_eq_true rfl) dX5_write_35 (fun r_19 h_18 hw => ?_)
    refine gw_if_eq (tgt := 45) dX5_write_38 (by decide) (fun c_20 => ?_) (fun c_20 => ?_)
    · have hw := hw.1 c_20
      exact tk_X5_write_45   x4 h_18 hw
    · have hw := hw.2 c_20
      refine gw_bipush dX5_write_41 bp_m2 ?_
      refine gw_istore (ls' := [some (.ref (ad 0)), some (.int p1), some (.int p2), some (.int p3), some (.int (-2 : Int32)), none, none, none, none, none]) dX5_write_43 (Nat.le_of_ble_eq_true rfl) rfl ?_
      exact tk_X5_write_45   (-2 : Int32) h_18 hw
def wp_X5_write (h : gw_H) (p1 : Int32) (p2 : Int32) (p3 : Int32) (Q : Int32 → gw_H → Prop) : Prop :=
  (wp_X5_lengthAndHours h p1 p2 (fun r_2 h_1 => ((¬ r_2 = 0 → (wk_X5_write_29 p1 p2 p3  Q r_2 h_1)) ∧ (r_2 = 0 → (wp_X3_isFull h_1 1 (fun r_22 h_21 => ((r_22 = 0 → (wk_X5_write_29 p1 p2 p3  Q r_2 h_21)) ∧ (¬ r_22 = 0 → (wk_X5_write_29 p1 p2 p3  Q (-6 : Int32) h_21)))))))))
set_option maxRecDepth 100000 in
set_option maxHeartbeats 4000000 in
theorem gc_X5_write {l : Launch} {ad : Nat → Nat} {h : gw_H} {p1 : Int32} {p2 : Int32} {p3 : Int32} {Q : Int32 → gw_H → Prop}  (hw : wp_X5_write h p1 p2 p3 Q) : gw_C l yX5_write cX5_write 10 (some .int) 6 149 vC ad [.ref (ad 0), .int p1, .int p2, .int p3] h Q := by
  refine gw_entry (own := RX5) [some (.ref (ad 0)), some (.int p1), some (.int p2), some (.int p3), none, none, none, none, none, none] pl_X5 rfl rfl (Nat.le_of_ble_eq_true rfl) rfl (fun X => ?_)
  unfold wp_X5_write at hw
  refine gw_iload_n dX5_write_0 rfl rfl ?_
  refine gw_iload_n dX5_write_1 rfl rfl ?_
  refine gw_callSi (As := [.int p1, .int p2]) (rest := []) rfl (gc_X5_lengthAndHours  hw) mX5_lengthAndHours lmX5_206 rfl rfl ⟨Nat.le_of_ble_eq_true rfl, Nat.le_of_ble_eq_true rfl⟩ (Nat.le_of_ble_eq_true rfl) dX5_write_2 (fun r_2 h_1 hw => ?_)
  refine gw_istore (ls' := [some (.ref (ad 0)), some (.int p1), some (.int p2), some (.int p3), some (.int r_2), none, none, none, none, none]) dX5_write_5 (Nat.le_of_ble_eq_true rfl) rfl ?_
  refine gw_iload dX5_write_7 rfl ?_
  refine gw_if_ne (tgt := 29) dX5_write_9 (by decide) (fun c_3 => ?_) (fun c_3 => ?_)
  · have hw := hw.1 c_3
    exact tk_X5_write_29   r_2 h_1 hw
  · have hw := hw.2 c_3
    refine gw_aload_n dX5_write_12 rfl rfl ?_
    refine gw_getf (k := 0) (v := .ref (ad 1)) oX5 clX5 inUX5 (Nat.le_of_ble_eq_true rfl) rfl lfX5_10 rfl dX5_write_13 ?_
    refine gw_getfN (k := 1) (v := .ref (ad 6)) (oX2 hb1) clX2 inUX2 (Nat.le_of_ble_eq_true rfl) rfl lfX5_70 rfl dX5_write_16 ?_
    refine gw_callVi (As := []) (rest := []) rfl (gc_X3_isFull hb1 hw) mX3_isFull lmX5_209 (oX3 hb1) clX3 rfl rfl ⟨Nat.le_of_ble_eq_true rfl, Nat.le_of_ble_eq_true rfl⟩ (Nat.le_of_ble_eq_true rfl) dX5_write_19 (fun r_22 h_21 hw => ?_)
    refine gw_if_eq (tgt := 29) dX5_write_22 (by decide) (fun c_23 => ?_) (fun c_23 => ?_)
    · have hw := hw.1 c_23
      exact tk_X5_write_29   r_2 h_21 hw
    · have hw := hw.2 c_23
      refine gw_bipush dX5_write_25 bp_m6 ?_
      refine gw_istore (ls' := [some (.ref (ad 0)), some (.int p1), some (.int p2), some (.int p3), some (.int (-6 : Int32)), none, none, none, none, none]) dX5_write_27 (Nat.le_of_ble_eq_true rfl) rfl ?_
      exact tk_X5_write_29   (-6 : Int32) h_21 hw
