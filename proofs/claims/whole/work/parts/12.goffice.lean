def wp_X2_give (h : gw_H) (b : Nat) (p1 : Int32) (p2 : Int32) (Q : Int32 → gw_H → Prop) : Prop :=
  (wp_X3_has h b p2 (fun r_2 h_1 => ((r_2 = 0 → (wp_X1_lose h_1 b p1 (fun _ h_4 => Q 0 h_4))) ∧ (¬ r_2 = 0 → (wp_X3_fresh h_1 b p2 (fun r_6 h_5 => (wp_X1_receive h_5 b p1 p2 r_6 p1 p1 (fun _ h_7 => Q 0 h_7))))))))
set_option maxRecDepth 100000 in
set_option maxHeartbeats 4000000 in
theorem gc_X2_give {l : Launch} {ad : Nat → Nat} {h : gw_H} {b : Nat} {p1 : Int32} {p2 : Int32} {Q : Int32 → gw_H → Prop} (hb : gw_b b) (hw : wp_X2_give h b p1 p2 Q) : gw_C l yX2_give cX2_give 3 none 2 47 vC ad [.ref (ad b), .int p1, .int p2] h Q := by
  refine gw_entry (own := RX2) [some (.ref (ad b)), some (.int p1), some (.int p2)] pl_X2 rfl rfl (Nat.le_of_ble_eq_true rfl) rfl (fun X => ?_)
  unfold wp_X2_give at hw
  refine gw_aload_n dX2_give_0 rfl rfl ?_
  refine gw_getf (k := 1) (v := .ref (ad (b + 5))) (oX2 hb) clX2 inUX2 (Nat.le_of_ble_eq_true rfl) rfl lfX2_21 rfl dX2_give_1 ?_
  refine gw_iload_n dX2_give_4 rfl rfl ?_
  refine gw_callVi (As := [.int p2]) (rest := []) rfl (gc_X3_has hb hw) mX3_has lmX2_79 (oX3 hb) clX3 rfl rfl ⟨Nat.le_of_ble_eq_true rfl, Nat.le_of_ble_eq_true rfl⟩ (Nat.le_of_ble_eq_true rfl) dX2_give_5 (fun r_2 h_1 hw => ?_)
  refine gw_if_eq (tgt := 33) dX2_give_8 (by decide) (fun c_3 => ?_) (fun c_3 => ?_)
  · have hw := hw.1 c_3
    refine gw_aload_n dX2_give_33 rfl rfl ?_
    refine gw_getf (k := 2) (v := .ref (ad (b + 9))) (oX2 hb) clX2 inUX2 (Nat.le_of_ble_eq_true rfl) rfl lfX2_28 rfl dX2_give_34 ?_
    refine gw_iload_n dX2_give_37 rfl rfl ?_
    refine gw_callVv (As := [.int p1]) (rest := []) rfl (gc_X1_lose hb hw) mX1_lose lmX2_90 (oX1 hb) clX1 rfl rfl ⟨Nat.le_of_ble_eq_true rfl, Nat.le_of_ble_eq_true rfl⟩ (Nat.le_of_ble_eq_true rfl) dX2_give_38 (fun h_4 hw => ?_)
    exact gw_return hw rfl dX2_give_41
  · have hw := hw.2 c_3
    refine gw_aload_n dX2_give_11 rfl rfl ?_
    refine gw_getf (k := 2) (v := .ref (ad (b + 9))) (oX2 hb) clX2 inUX2 (Nat.le_of_ble_eq_true rfl) rfl lfX2_28 rfl dX2_give_12 ?_
    refine gw_iload_n dX2_give_15 rfl rfl ?_
    refine gw_iload_n dX2_give_16 rfl rfl ?_
    refine gw_aload_n dX2_give_17 rfl rfl ?_
    refine gw_getf (k := 1) (v := .ref (ad (b + 5))) (oX2 hb) clX2 inUX2 (Nat.le_of_ble_eq_true rfl) rfl lfX2_21 rfl dX2_give_18 ?_
    refine gw_iload_n dX2_give_21 rfl rfl ?_
    refine gw_callVi (As := [.int p2]) (rest := [.int p2, .int p1, .ref (ad (b + 9))]) rfl (gc_X3_fresh hb hw) mX3_fresh lmX2_83 (oX3 hb) clX3 rfl rfl ⟨Nat.le_of_ble_eq_true rfl, Nat.le_of_ble_eq_true rfl⟩ (Nat.le_of_ble_eq_true rfl) dX2_give_22 (fun r_6 h_5 hw => ?_)
    refine gw_iload_n dX2_give_25 rfl rfl ?_
    refine gw_iload_n dX2_give_26 rfl rfl ?_
    refine gw_callVv (As := [.int p1, .int p2, .int r_6, .int p1, .int p1]) (rest := []) rfl (gc_X1_receive hb hw) mX1_receive lmX2_86 (oX1 hb) clX1 rfl rfl ⟨Nat.le_of_ble_eq_true rfl, Nat.le_of_ble_eq_true rfl⟩ (Nat.le_of_ble_eq_true rfl) dX2_give_27 (fun h_7 hw => ?_)
    refine gw_goto (tgt := 41) dX2_give_30 (by decide) ?_
    exact gw_return hw rfl dX2_give_41
def wk_X2_listen_180 (b : Nat) (p1 : Int32)  (Q : Int32 → gw_H → Prop) : Int32 → Int32 → Int32 → gw_H → Prop :=
  fun x3 s0 s1 h => (wp_X5_put h (b + 20) 6 s1 s0 (fun _ h_6 => (wp_X5_put h_6 (b + 21) 6 p1 x3 (fun _ h_7 => (wp_X5_at h_7 (b + 17) 6 x3 (fun r_9 h_8 => (wp_X5_put h_8 (b + 22) 6 p1 r_9 (fun _ h_10 => Q 0 h_10))))))))
set_option maxRecDepth 100000 in
set_option maxHeartbeats 4000000 in
theorem tk_X2_listen_180 {l : Launch} {ad : Nat → Nat} {X : gw_X} {b : Nat} {p1 : Int32}  {Q : Int32 → gw_H → Prop} (hb : gw_b b)  (x3 : Int32) (s0 : Int32) (s1 : Int32) (h : gw_H) (hw : wk_X2_listen_180 b p1  Q x3 s0 s1 h) : gw_G l vC ad cX2_listen RX2 7 none 2 44 Q X h 180 [some (.ref (ad b)), some (.int p1), none, some (.int x3), none, none, none] [.int s0, .int s1, .ref (ad (b + 20))] := by
  unfold wk_X2_listen_180 at hw
  refine gw_callNv (As := [.ref (ad (b + 20)), .int s1, .int s0]) (rest := []) rfl (gc_X5_put (ar_20 hb) hw) mX5_put lmX2_101 rfl rfl ⟨Nat.le_of_ble_eq_true rfl, Nat.le_of_ble_eq_true rfl⟩ (Nat.le_of_ble_eq_true rfl) dX2_listen_180 (fun h_6 hw => ?_)
  refine gw_aload_n dX2_listen_183 rfl rfl ?_
  refine gw_getf (k := 8) (v := .ref (ad (b + 21))) (oX2 hb) clX2 inUX2 (Nat.le_of_ble_eq_true rfl) rfl lfX2_49 rfl dX2_listen_184 ?_
  refine gw_iload_n dX2_listen_187 rfl rfl ?_
  refine gw_iload_n dX2_listen_188 rfl rfl ?_
  refine gw_callNv (As := [.ref (ad (b + 21)), .int p1, .int x3]) (rest := []) rfl (gc_X5_put (ar_21 hb) hw) mX5_put lmX2_101 rfl rfl ⟨Nat.le_of_ble_eq_true rfl, Nat.le_of_ble_eq_true rfl⟩ (Nat.le_of_ble_eq_true rfl) dX2_listen_189 (fun h_7 hw => ?_)
  refine gw_aload_n dX2_listen_192 rfl rfl ?_
  refine gw_getf (k := 9) (v := .ref (ad (b + 22))) (oX2 hb) clX2 inUX2 (Nat.le_of_ble_eq_true rfl) rfl lfX2_52 rfl dX2_listen_193 ?_
  refine gw_iload_n dX2_listen_196 rfl rfl ?_
  refine gw_aload_n dX2_listen_197 rfl rfl ?_
  refine gw_getf (k := 2) (v := .ref (ad (b + 9))) (oX2 hb) clX2 inUX2 (Nat.le_of_ble_eq_true rfl) rfl lfX2_28 rfl dX2_listen_198 ?_
  refine gw_getfN (k := 7) (v := .ref (ad (b + 17))) (oX1 hb) clX1 inUX1 (Nat.le_of_ble_eq_true rfl) rfl lfX2_138 rfl dX2_listen_201 ?_
  refine gw_iload_n dX2_listen_204 rfl rfl ?_
  refine gw_callNi (As := [.ref (ad (b + 17)), .int x3]) (rest := [.int p1, .ref (ad (b + 22))]) rfl (gc_X5_at (ar_17 hb) hw) mX5_at lmX2_68 rfl rfl ⟨Nat.le_of_ble_eq_true rfl, Nat.le_of_ble_eq_true rfl⟩ (Nat.le_of_ble_eq_true rfl) dX2_listen_205 (fun r_9 h_8 hw => ?_)
  refine gw_callNv (As := [.ref (ad (b + 22)), .int p1, .int r_9]) (rest := []) rfl (gc_X5_put (ar_22 hb) hw) mX5_put lmX2_101 rfl rfl ⟨Nat.le_of_ble_eq_true rfl, Nat.le_of_ble_eq_true rfl⟩ (Nat.le_of_ble_eq_true rfl) dX2_listen_208 (fun h_10 hw => ?_)
  exact gw_return hw rfl dX2_listen_211
def wk_X2_listen_162 (b : Nat) (p1 : Int32)  (Q : Int32 → gw_H → Prop) : Int32 → Int32 → Int32 → gw_H → Prop :=
  fun x2 x3 s0 h => ((s0 = 0 → (wk_X2_listen_180 b p1  Q x3 (-9 : Int32) p1 h)) ∧ (¬ s0 = 0 → (wk_X2_listen_180 b p1  Q x3 x2 p1 h)))
set_option maxRecDepth 100000 in
set_option maxHeartbeats 4000000 in
theorem tk_X2_listen_162 {l : Launch} {ad : Nat → Nat} {X : gw_X} {b : Nat} {p1 : Int32}  {Q : Int32 → gw_H → Prop} (hb : gw_b b)  (x2 : Int32) (x3 : Int32) (s0 : Int32) (h : gw_H) (hw : wk_X2_listen_162 b p1  Q x2 x3 s0 h) : gw_G l vC ad cX2_listen RX2 7 none 2 44 Q X h 162 [some (.ref (ad b)), some (.int p1), some (.int x2), some (.int x3), none, none, none] [.int s0] := by
  unfold wk_X2_listen_162 at hw
  refine gw_istore (ls' := [some (.ref (ad b)), some (.int p1), some (.int x2), some (.int x3), some (.int s0), none, none]) dX2_listen_162 (Nat.le_of_ble_eq_true rfl) rfl ?_
  refine gw_aload_n dX2_listen_164 rfl rfl ?_
  refine gw_getf (k := 7) (v := .ref (ad (b + 20))) (oX2 hb) clX2 inUX2 (Nat.le_of_ble_eq_true rfl) rfl lfX2_46 rfl dX2_listen_165 ?_
  refine gw_iload_n dX2_listen_168 rfl rfl ?_
  refine gw_iload dX2_listen_169 rfl ?_
  refine gw_if_eq (tgt := 178) dX2_listen_171 (by decide) (fun c_5 => ?_) (fun c_5 => ?_)
  · have hw := hw.1 c_5
    refine gw_bipush dX2_listen_178 bp_m9 ?_
    refine gw_forget (ls' := [some (.ref (ad b)), some (.int p1), none, some (.int x3), none, none, none]) (gw_sub.s (gw_sub.s (gw_sub.n (gw_sub.s (gw_sub.n (gw_sub.n (gw_sub.n gw_sub.z))))))) ?_
    exact tk_X2_listen_180 hb  x3 (-9 : Int32) p1 h hw
  · have hw := hw.2 c_5
    refine gw_iload_n dX2_listen_174 rfl rfl ?_
    refine gw_goto (tgt := 180) dX2_listen_175 (by decide) ?_
    refine gw_forget (ls' := [some (.ref (ad b)), some (.int p1), none, some (.int x3), none, none, none]) (gw_sub.s (gw_sub.s (gw_sub.n (gw_sub.s (gw_sub.n (gw_sub.n (gw_sub.n gw_sub.z))))))) ?_
    exact tk_X2_listen_180 hb  x3 x2 p1 h hw
def wk_X2_listen_161 (b : Nat) (p1 : Int32)  (Q : Int32 → gw_H → Prop) : Int32 → Int32 → gw_H → Prop :=
  fun x2 x3 h => (wk_X2_listen_162 b p1  Q x2 x3 (0 : Int32) h)
set_option maxRecDepth 100000 in
set_option maxHeartbeats 4000000 in
theorem tk_X2_listen_161 {l : Launch} {ad : Nat → Nat} {X : gw_X} {b : Nat} {p1 : Int32}  {Q : Int32 → gw_H → Prop} (hb : gw_b b)  (x2 : Int32) (x3 : Int32) (h : gw_H) (hw : wk_X2_listen_161 b p1  Q x2 x3 h) : gw_G l vC ad cX2_listen RX2 7 none 2 44 Q X h 161 [some (.ref (ad b)), some (.int p1), some (.int x2), some (.int x3), none, none, none] [] := by
  unfold wk_X2_listen_161 at hw
  refine gw_iconst dX2_listen_161 ic_0 ?_
  exact tk_X2_listen_162 hb  x2 x3 (0 : Int32) h hw
def wk_X2_listen_96 (b : Nat) (p1 : Int32) (K9 : Int32 → Int32 → Int32 → gw_H → Prop) (Q : Int32 → gw_H → Prop) : Int32 → Int32 → Int32 → gw_H → Prop :=
  fun x2 x3 x4 h => (K9 x2 x3 (x4 + (1 : Int32)) h)
set_option maxRecDepth 100000 in
set_option maxHeartbeats 4000000 in
theorem tk_X2_listen_96 {l : Launch} {ad : Nat → Nat} {X : gw_X} {b : Nat} {p1 : Int32} {K9 : Int32 → Int32 → Int32 → gw_H → Prop} {Q : Int32 → gw_H → Prop} (hb : gw_b b) (hK9 : ∀ (y2 : Int32) (y3 : Int32) (y4 : Int32) (h : gw_H), K9 y2 y3 y4 h → gw_G l vC ad cX2_listen RX2 7 none 2 44 Q X h 9 [some (.ref (ad b)), some (.int p1), some (.int y2), some (.int y3), some (.int y4), none, none] []) (x2 : Int32) (x3 : Int32) (x4 : Int32) (h : gw_H) (hw : wk_X2_listen_96 b p1 K9 Q x2 x3 x4 h) : gw_G l vC ad cX2_listen RX2 7 none 2 44 Q X h 96 [some (.ref (ad b)), some (.int p1), some (.int x2), some (.int x3), some (.int x4), none, none] [] := by
  unfold wk_X2_listen_96 at hw
  refine gw_iinc (ls' := [some (.ref (ad b)), some (.int p1), some (.int x2), some (.int x3), some (.int (x4 + (1 : Int32))), none, none]) dX2_listen_96 rfl (congrArg (fun z => x4 + z) ic_1) (Nat.le_of_ble_eq_true rfl) rfl ?_
  refine gw_goto (tgt := 9) dX2_listen_99 (by decide) ?_
  exact hK9 x2 x3 (x4 + (1 : Int32)) h hw
def wk_X2_listen_54 (b : Nat) (p1 : Int32) (K9 : Int32 → Int32 → Int32 → gw_H → Prop) (Q : Int32 → gw_H → Prop) : Int32 → Int32 → Int32 → Int32 → Int32 → gw_H → Prop :=
  fun x2 x3 x4 x5 s0 h => ((s0 = 0 → (wk_X2_listen_96 b p1 K9 Q x2 x3 x4 h)) ∧ (¬ s0 = 0 → (wp_X5_at h (b + 13) 6 p1 (fun r_28 h_27 => ((x5 = r_28 → (wk_X2_listen_96 b p1 K9 Q x2 x3 x4 h_27)) ∧ (¬ x5 = r_28 → (wp_X3_isStronger h_27 b x5 x2 (fun r_31 h_30 => ((r_31 = 0 → (wk_X2_listen_96 b p1 K9 Q x2 x3 x4 h_30)) ∧ (¬ r_31 = 0 → (wk_X2_listen_96 b p1 K9 Q x5 x4 x4 h_30)))))))))))
set_option maxRecDepth 100000 in
set_option maxHeartbeats 4000000 in
theorem tk_X2_listen_54 {l : Launch} {ad : Nat → Nat} {X : gw_X} {b : Nat} {p1 : Int32} {K9 : Int32 → Int32 → Int32 → gw_H → Prop} {Q : Int32 → gw_H → Prop} (hb : gw_b b) (hK9 : ∀ (y2 : Int32) (y3 : Int32) (y4 : Int32) (h : gw_H), K9 y2 y3 y4 h → gw_G l vC ad cX2_listen RX2 7 none 2 44 Q X h 9 [some (.ref (ad b)), some (.int p1), some (.int y2), some (.int y3), some (.int y4), none, none] []) (x2 : Int32) (x3 : Int32) (x4 : Int32) (x5 : Int32) (s0 : Int32) (h : gw_H) (hw : wk_X2_listen_54 b p1 K9 Q x2 x3 x4 x5 s0 h) : gw_G l vC ad cX2_listen RX2 7 none 2 44 Q X h 54 [some (.ref (ad b)), some (.int p1), some (.int x2), some (.int x3), some (.int x4), some (.int x5), none] [.int s0] := by
  unfold wk_X2_listen_54 at hw
  refine gw_istore (ls' := [some (.ref (ad b)), some (.int p1), some (.int x2), some (.int x3), some (.int x4), some (.int x5), some (.int s0)]) dX2_listen_54 (Nat.le_of_ble_eq_true rfl) rfl ?_
  refine gw_iload dX2_listen_56 rfl ?_
  refine gw_if_eq (tgt := 96) dX2_listen_58 (by decide) (fun c_26 => ?_) (fun c_26 => ?_)
  · have hw := hw.1 c_26
    refine gw_forget (ls' := [some (.ref (ad b)), some (.int p1), some (.int x2), some (.int x3), some (.int x4), none, none]) (gw_sub.s (gw_sub.s (gw_sub.s (gw_sub.s (gw_sub.s (gw_sub.n (gw_sub.n gw_sub.z))))))) ?_
    exact tk_X2_listen_96 hb hK9 x2 x3 x4 h hw
  · have hw := hw.2 c_26
    refine gw_iload dX2_listen_61 rfl ?_
    refine gw_aload_n dX2_listen_63 rfl rfl ?_
    refine gw_getf (k := 2) (v := .ref (ad (b + 9))) (oX2 hb) clX2 inUX2 (Nat.le_of_ble_eq_true rfl) rfl lfX2_28 rfl dX2_listen_64 ?_
    refine gw_getfN (k := 3) (v := .ref (ad (b + 13))) (oX1 hb) clX1 inUX1 (Nat.le_of_ble_eq_true rfl) rfl lfX2_109 rfl dX2_listen_67 ?_
    refine gw_iload_n dX2_listen_70 rfl rfl ?_
    refine gw_callNi (As := [.ref (ad (b + 13)), .int p1]) (rest := [.int x5]) rfl (gc_X5_at (ar_13 hb) hw) mX5_at lmX2_68 rfl rfl ⟨Nat.le_of_ble_eq_true rfl, Nat.le_of_ble_eq_true rfl⟩ (Nat.le_of_ble_eq_true rfl) dX2_listen_71 (fun r_28 h_27 hw => ?_)
    refine gw_icmp_eq (tgt := 96) dX2_listen_74 (by decide) (fun c_29 => ?_) (fun c_29 => ?_)
    · have hw := hw.1 c_29
      refine gw_forget (ls' := [some (.ref (ad b)), some (.int p1), some (.int x2), some (.int x3), some (.int x4), none, none]) (gw_sub.s (gw_sub.s (gw_sub.s (gw_sub.s (gw_sub.s (gw_sub.n (gw_sub.n gw_sub.z))))))) ?_
      exact tk_X2_listen_96 hb hK9 x2 x3 x4 h_27 hw
    · have hw := hw.2 c_29
      refine gw_aload_n dX2_listen_77 rfl rfl ?_
      refine gw_getf (k := 1) (v := .ref (ad (b + 5))) (oX2 hb) clX2 inUX2 (Nat.le_of_ble_eq_true rfl) rfl lfX2_21 rfl dX2_listen_78 ?_
      refine gw_iload dX2_listen_81 rfl ?_
      refine gw_iload_n dX2_listen_83 rfl rfl ?_
      refine gw_callVi (As := [.int x5, .int x2]) (rest := []) rfl (gc_X3_isStronger hb hw) mX3_isStronger lmX2_125 (oX3 hb) clX3 rfl rfl ⟨Nat.le_of_ble_eq_true rfl, Nat.le_of_ble_eq_true rfl⟩ (Nat.le_of_ble_eq_true rfl) dX2_listen_84 (fun r_31 h_30 hw => ?_)
      refine gw_if_eq (tgt := 96) dX2_listen_87 (by decide) (fun c_32 => ?_) (fun c_32 => ?_)
      · have hw := hw.1 c_32
        refine gw_forget (ls' := [some (.ref (ad b)), some (.int p1), some (.int x2), some (.int x3), some (.int x4), none, none]) (gw_sub.s (gw_sub.s (gw_sub.s (gw_sub.s (gw_sub.s (gw_sub.n (gw_sub.n gw_sub.z))))))) ?_
        exact tk_X2_listen_96 hb hK9 x2 x3 x4 h_30 hw
      · have hw := hw.2 c_32
        refine gw_iload dX2_listen_90 rfl ?_
        refine gw_istore_n (ls' := [some (.ref (ad b)), some (.int p1), some (.int x5), some (.int x3), some (.int x4), some (.int x5), some (.int s0)]) dX2_listen_92 rfl (Nat.le_of_ble_eq_true rfl) rfl ?_
        refine gw_iload dX2_listen_93 rfl ?_
        refine gw_istore_n (ls' := [some (.ref (ad b)), some (.int p1), some (.int x5), some (.int x4), some (.int x4), some (.int x5), some (.int s0)]) dX2_listen_95 rfl (Nat.le_of_ble_eq_true rfl) rfl ?_
        refine gw_forget (ls' := [some (.ref (ad b)), some (.int p1), some (.int x5), some (.int x4), some (.int x4), none, none]) (gw_sub.s (gw_sub.s (gw_sub.s (gw_sub.s (gw_sub.s (gw_sub.n (gw_sub.n gw_sub.z))))))) ?_
        exact tk_X2_listen_96 hb hK9 x5 x4 x4 h_30 hw
def wl_X2_listen_9 (b : Nat) (p1 : Int32)  (Q : Int32 → gw_H → Prop) : Nat → Int32 → Int32 → Int32 → gw_H → Prop
  | 0 => fun _ _ _ _ => False
  | n + 1 => fun x2 x3 x4 h => (((h (b + 9) 8) ≤ x4 → (wp_X3_has h b x2 (fun r_3 h_2 => ((r_3 = 0 → (wk_X2_listen_161 b p1  Q x2 x3 h_2)) ∧ (¬ r_3 = 0 → (wp_X5_at h_2 (b + 7) 5 x2 (fun r_12 h_11 => (wp_X1_bar h_11 b p1 (fun r_14 h_13 => ((r_12 ≤ r_14 → (wk_X2_listen_161 b p1  Q x2 x3 h_13)) ∧ (¬ r_12 ≤ r_14 → (wp_X3_fresh h_13 b x2 (fun r_17 h_16 => (wp_X5_at h_16 (b + 14) 6 p1 (fun r_19 h_18 => ((r_17 ≤ r_19 → (wk_X2_listen_161 b p1  Q x2 x3 h_18)) ∧ (¬ r_17 ≤ r_19 → (wk_X2_listen_162 b p1  Q x2 x3 (1 : Int32) h_18)))))))))))))))))) ∧ (¬ (h (b + 9) 8) ≤ x4 → (wp_X5_at h (b + 19) 6 x4 (fun r_22 h_21 => (wp_X5_at h_21 (b + 18) 6 p1 (fun r_24 h_23 => ((¬ ((r_24 >>> (x4 &&& 31)) &&& (1 : Int32)) = (1 : Int32) → (wk_X2_listen_54 b p1 (wl_X2_listen_9 b p1  Q n) Q x2 x3 x4 r_22 (0 : Int32) h_23)) ∧ (((r_24 >>> (x4 &&& 31)) &&& (1 : Int32)) = (1 : Int32) → (wk_X2_listen_54 b p1 (wl_X2_listen_9 b p1  Q n) Q x2 x3 x4 r_22 (1 : Int32) h_23)))))))))
set_option maxRecDepth 100000 in
set_option maxHeartbeats 4000000 in
theorem tl_X2_listen_9 {l : Launch} {ad : Nat → Nat} {X : gw_X} {b : Nat} {p1 : Int32}  {Q : Int32 → gw_H → Prop} (hb : gw_b b)  : ∀ (n : Nat) (x2 : Int32) (x3 : Int32) (x4 : Int32) (h : gw_H), wl_X2_listen_9 b p1  Q n x2 x3 x4 h → gw_G l vC ad cX2_listen RX2 7 none 2 44 Q X h 9 [some (.ref (ad b)), some (.int p1), some (.int x2), some (.int x3), some (.int x4), none, none] [] := by
  intro n
  induction n with
  | zero => intro x2 x3 x4 h hw; exact hw.elim
  | succ n ih =>
    intro x2 x3 x4 h hw
    unfold wl_X2_listen_9 at hw
    refine gw_iload dX2_listen_9 rfl ?_
    refine gw_aload_n dX2_listen_11 rfl rfl ?_
    refine gw_getf (k := 2) (v := .ref (ad (b + 9))) (oX2 hb) clX2 inUX2 (Nat.le_of_ble_eq_true rfl) rfl lfX2_28 rfl dX2_listen_12 ?_
    refine gw_getfN (k := 8) (v := .int (h (b + 9) 8)) (oX1 hb) clX1 inUX1 (Nat.le_of_ble_eq_true rfl) rfl lfX2_76 rfl dX2_listen_15 ?_
    refine gw_icmp_ge (tgt := 102) dX2_listen_18 (by decide) (fun c_1 => ?_) (fun c_1 => ?_)
    · have hw := hw.1 c_1
      refine gw_aload_n dX2_listen_102 rfl rfl ?_
      refine gw_getf (k := 1) (v := .ref (ad (b + 5))) (oX2 hb) clX2 inUX2 (Nat.le_of_ble_eq_true rfl) rfl lfX2_21 rfl dX2_listen_103 ?_
      refine gw_iload_n dX2_listen_106 rfl rfl ?_
      refine gw_callVi (As := [.int x2]) (rest := []) rfl (gc_X3_has hb hw) mX3_has lmX2_79 (oX3 hb) clX3 rfl rfl ⟨Nat.le_of_ble_eq_true rfl, Nat.le_of_ble_eq_true rfl⟩ (Nat.le_of_ble_eq_true rfl) dX2_listen_107 (fun r_3 h_2 hw => ?_)
      refine gw_if_eq (tgt := 161) dX2_listen_110 (by decide) (fun c_4 => ?_) (fun c_4 => ?_)
      · have hw := hw.1 c_4
        refine gw_forget (ls' := [some (.ref (ad b)), some (.int p1), some (.int x2), some (.int x3), none, none, none]) (gw_sub.s (gw_sub.s (gw_sub.s (gw_sub.s (gw_sub.n (gw_sub.n (gw_sub.n gw_sub.z))))))) ?_
        exact tk_X2_listen_161 hb  x2 x3 h_2 hw
      · have hw := hw.2 c_4
        refine gw_aload_n dX2_listen_113 rfl rfl ?_
        refine gw_getf (k := 1) (v := .ref (ad (b + 5))) (oX2 hb) clX2 inUX2 (Nat.le_of_ble_eq_true rfl) rfl lfX2_21 rfl dX2_listen_114 ?_
        refine gw_getfN (k := 1) (v := .ref (ad (b + 7))) (oX3 hb) clX3 inUX3 (Nat.le_of_ble_eq_true rfl) rfl lfX2_129 rfl dX2_listen_117 ?_
        refine gw_iload_n dX2_listen_120 rfl rfl ?_
        refine gw_callNi (As := [.ref (ad (b + 7)), .int x2]) (rest := []) rfl (gc_X5_at (ar_7 hb) hw) mX5_at lmX2_68 rfl rfl ⟨Nat.le_of_ble_eq_true rfl, Nat.le_of_ble_eq_true rfl⟩ (Nat.le_of_ble_eq_true rfl) dX2_listen_121 (fun r_12 h_11 hw => ?_)
        refine gw_aload_n dX2_listen_124 rfl rfl ?_
        refine gw_getf (k := 2) (v := .ref (ad (b + 9))) (oX2 hb) clX2 inUX2 (Nat.le_of_ble_eq_true rfl) rfl lfX2_28 rfl dX2_listen_125 ?_
        refine gw_iload_n dX2_listen_128 rfl rfl ?_
        refine gw_callVi (As := [.int p1]) (rest := [.int r_12]) rfl (gc_X1_bar hb hw) mX1_bar lmX2_132 (oX1 hb) clX1 rfl rfl ⟨Nat.le_of_ble_eq_true rfl, Nat.le_of_ble_eq_true rfl⟩ (Nat.le_of_ble_eq_true rfl) dX2_listen_129 (fun r_14 h_13 hw => ?_)
        refine gw_icmp_le (tgt := 161) dX2_listen_132 (by decide) (fun c_15 => ?_) (fun c_15 => ?_)
        · have hw := hw.1 c_15
          refine gw_forget (ls' := [some (.ref (ad b)), some (.int p1), some (.int x2), some (.int x3), none, none, none]) (gw_sub.s (gw_sub.s (gw_sub.s (gw_sub.s (gw_sub.n (gw_sub.n (gw_sub.n gw_sub.z))))))) ?_
          exact tk_X2_listen_161 hb  x2 x3 h_13 hw
        · have hw := hw.2 c_15
          refine gw_aload_n dX2_listen_135 rfl rfl ?_
          refine gw_getf (k := 1) (v := .ref (ad (b + 5))) (oX2 hb) clX2 inUX2 (Nat.le_of_ble_eq_true rfl) rfl lfX2_21 rfl dX2_listen_136 ?_
          refine gw_iload_n dX2_listen_139 rfl rfl ?_
          refine gw_callVi (As := [.int x2]) (rest := []) rfl (gc_X3_fresh hb hw) mX3_fresh lmX2_83 (oX3 hb) clX3 rfl rfl ⟨Nat.le_of_ble_eq_true rfl, Nat.le_of_ble_eq_true rfl⟩ (Nat.le_of_ble_eq_true rfl) dX2_listen_140 (fun r_17 h_16 hw => ?_)
          refine gw_aload_n dX2_listen_143 rfl rfl ?_
          refine gw_getf (k := 2) (v := .ref (ad (b + 9))) (oX2 hb) clX2 inUX2 (Nat.le_of_ble_eq_true rfl) rfl lfX2_28 rfl dX2_listen_144 ?_
          refine gw_getfN (k := 4) (v := .ref (ad (b + 14))) (oX1 hb) clX1 inUX1 (Nat.le_of_ble_eq_true rfl) rfl lfX2_135 rfl dX2_listen_147 ?_
          refine gw_iload_n dX2_listen_150 rfl rfl ?_
          refine gw_callNi (As := [.ref (ad (b + 14)), .int p1]) (rest := [.int r_17]) rfl (gc_X5_at (ar_14 hb) hw) mX5_at lmX2_68 rfl rfl ⟨Nat.le_of_ble_eq_true rfl, Nat.le_of_ble_eq_true rfl⟩ (Nat.le_of_ble_eq_true rfl) dX2_listen_151 (fun r_19 h_18 hw => ?_)
          refine gw_icmp_le (tgt := 161) dX2_listen_154 (by decide) (fun c_20 => ?_) (fun c_20 => ?_)
          · have hw := hw.1 c_20
            refine gw_forget (ls' := [some (.ref (ad b)), some (.int p1), some (.int x2), some (.int x3), none, none, none]) (gw_sub.s (gw_sub.s (gw_sub.s (gw_sub.s (gw_sub.n (gw_sub.n (gw_sub.n gw_sub.z))))))) ?_
            exact tk_X2_listen_161 hb  x2 x3 h_18 hw
          · have hw := hw.2 c_20
            refine gw_iconst dX2_listen_157 ic_1 ?_
            refine gw_goto (tgt := 162) dX2_listen_158 (by decide) ?_
            refine gw_forget (ls' := [some (.ref (ad b)), some (.int p1), some (.int x2), some (.int x3), none, none, none]) (gw_sub.s (gw_sub.s (gw_sub.s (gw_sub.s (gw_sub.n (gw_sub.n (gw_sub.n gw_sub.z))))))) ?_
            exact tk_X2_listen_162 hb  x2 x3 (1 : Int32) h_18 hw
    · have hw := hw.2 c_1
      refine gw_aload_n dX2_listen_21 rfl rfl ?_
      refine gw_getf (k := 6) (v := .ref (ad (b + 19))) (oX2 hb) clX2 inUX2 (Nat.le_of_ble_eq_true rfl) rfl lfX2_43 rfl dX2_listen_22 ?_
      refine gw_iload dX2_listen_25 rfl ?_
      refine gw_callNi (As := [.ref (ad (b + 19)), .int x4]) (rest := []) rfl (gc_X5_at (ar_19 hb) hw) mX5_at lmX2_68 rfl rfl ⟨Nat.le_of_ble_eq_true rfl, Nat.le_of_ble_eq_true rfl⟩ (Nat.le_of_ble_eq_true rfl) dX2_listen_27 (fun r_22 h_21 hw => ?_)
      refine gw_istore (ls' := [some (.ref (ad b)), some (.int p1), some (.int x2), some (.int x3), some (.int x4), some (.int r_22), none]) dX2_listen_30 (Nat.le_of_ble_eq_true rfl) rfl ?_
      refine gw_aload_n dX2_listen_32 rfl rfl ?_
      refine gw_getf (k := 5) (v := .ref (ad (b + 18))) (oX2 hb) clX2 inUX2 (Nat.le_of_ble_eq_true rfl) rfl lfX2_39 rfl dX2_listen_33 ?_
      refine gw_iload_n dX2_listen_36 rfl rfl ?_
      refine gw_callNi (As := [.ref (ad (b + 18)), .int p1]) (rest := []) rfl (gc_X5_at (ar_18 hb) hw) mX5_at lmX2_68 rfl rfl ⟨Nat.le_of_ble_eq_true rfl, Nat.le_of_ble_eq_true rfl⟩ (Nat.le_of_ble_eq_true rfl) dX2_listen_37 (fun r_24 h_23 hw => ?_)
      refine gw_iload dX2_listen_40 rfl ?_
      refine gw_ishr dX2_listen_42 ?_
      refine gw_iconst dX2_listen_43 ic_1 ?_
      refine gw_iand dX2_listen_44 ?_
      refine gw_iconst dX2_listen_45 ic_1 ?_
      refine gw_icmp_ne (tgt := 53) dX2_listen_46 (by decide) (fun c_25 => ?_) (fun c_25 => ?_)
      · have hw := hw.1 c_25
        refine gw_iconst dX2_listen_53 ic_0 ?_
        exact tk_X2_listen_54 hb  ih x2 x3 x4 r_22 (0 : Int32) h_23 hw
      · have hw := hw.2 c_25
        refine gw_iconst dX2_listen_49 ic_1 ?_
        refine gw_goto (tgt := 54) dX2_listen_50 (by decide) ?_
        exact tk_X2_listen_54 hb  ih x2 x3 x4 r_22 (1 : Int32) h_23 hw
def wp_X2_listen (h : gw_H) (b : Nat) (p1 : Int32) (Q : Int32 → gw_H → Prop) : Prop :=
  (∃ n_33 : Nat, wl_X2_listen_9 b p1  Q n_33 (-9 : Int32) (-9 : Int32) (0 : Int32) h)
set_option maxRecDepth 100000 in
set_option maxHeartbeats 4000000 in
theorem gc_X2_listen {l : Launch} {ad : Nat → Nat} {h : gw_H} {b : Nat} {p1 : Int32} {Q : Int32 → gw_H → Prop} (hb : gw_b b) (hw : wp_X2_listen h b p1 Q) : gw_C l yX2_listen cX2_listen 7 none 2 44 vC ad [.ref (ad b), .int p1] h Q := by
  refine gw_entry (own := RX2) [some (.ref (ad b)), some (.int p1), none, none, none, none, none] pl_X2 rfl rfl (Nat.le_of_ble_eq_true rfl) rfl (fun X => ?_)
  unfold wp_X2_listen at hw
  refine gw_bipush dX2_listen_0 bp_m9 ?_
  refine gw_istore_n (ls' := [some (.ref (ad b)), some (.int p1), some (.int (-9 : Int32)), none, none, none, none]) dX2_listen_2 rfl (Nat.le_of_ble_eq_true rfl) rfl ?_
  refine gw_bipush dX2_listen_3 bp_m9 ?_
  refine gw_istore_n (ls' := [some (.ref (ad b)), some (.int p1), some (.int (-9 : Int32)), some (.int (-9 : Int32)), none, none, none]) dX2_listen_5 rfl (Nat.le_of_ble_eq_true rfl) rfl ?_
  refine gw_iconst dX2_listen_6 ic_0 ?_
  refine gw_istore (ls' := [some (.ref (ad b)), some (.int p1), some (.int (-9 : Int32)), some (.int (-9 : Int32)), some (.int (0 : Int32)), none, none]) dX2_listen_7 (Nat.le_of_ble_eq_true rfl) rfl ?_
  obtain ⟨n_33, hw⟩ := hw
  exact tl_X2_listen_9 hb  n_33 (-9 : Int32) (-9 : Int32) (0 : Int32) h hw
def wk_X2_nearBits_69 (b : Nat) (p1 : Int32) (K24 : Int32 → Int32 → Int32 → gw_H → Prop) (Q : Int32 → gw_H → Prop) : Int32 → Int32 → Int32 → gw_H → Prop :=
  fun x2 x3 x4 h => (K24 x2 x3 (x4 + (1 : Int32)) h)
set_option maxRecDepth 100000 in
set_option maxHeartbeats 4000000 in
theorem tk_X2_nearBits_69 {l : Launch} {ad : Nat → Nat} {X : gw_X} {b : Nat} {p1 : Int32} {K24 : Int32 → Int32 → Int32 → gw_H → Prop} {Q : Int32 → gw_H → Prop} (hb : gw_b b) (hK24 : ∀ (y2 : Int32) (y3 : Int32) (y4 : Int32) (h : gw_H), K24 y2 y3 y4 h → gw_G l vC ad cX2_nearBits RX2 5 (some .int) 2 44 Q X h 24 [some (.ref (ad b)), some (.int p1), some (.int y2), some (.int y3), some (.int y4)] []) (x2 : Int32) (x3 : Int32) (x4 : Int32) (h : gw_H) (hw : wk_X2_nearBits_69 b p1 K24 Q x2 x3 x4 h) : gw_G l vC ad cX2_nearBits RX2 5 (some .int) 2 44 Q X h 69 [some (.ref (ad b)), some (.int p1), some (.int x2), some (.int x3), some (.int x4)] [] := by
  unfold wk_X2_nearBits_69 at hw
  refine gw_iinc (ls' := [some (.ref (ad b)), some (.int p1), some (.int x2), some (.int x3), some (.int (x4 + (1 : Int32)))]) dX2_nearBits_69 rfl (congrArg (fun z => x4 + z) ic_1) (Nat.le_of_ble_eq_true rfl) rfl ?_
  refine gw_goto (tgt := 24) dX2_nearBits_72 (by decide) ?_
  exact hK24 x2 x3 (x4 + (1 : Int32)) h hw
def wl_X2_nearBits_24 (b : Nat) (p1 : Int32)  (Q : Int32 → gw_H → Prop) : Nat → Int32 → Int32 → Int32 → gw_H → Prop
  | 0 => fun _ _ _ _ => False
  | n + 1 => fun x2 x3 x4 h => (((h (b + 9) 8) ≤ x4 → Q x3 h) ∧ (¬ (h (b + 9) 8) ≤ x4 → ((x4 = p1 → (wk_X2_nearBits_69 b p1 (wl_X2_nearBits_24 b p1  Q n) Q x2 x3 x4 h)) ∧ (¬ x4 = p1 → (wp_X5_at h (b + 11) 6 x4 (fun r_8 h_7 => ((¬ ((x2 >>> (r_8 &&& 31)) &&& (1 : Int32)) = (1 : Int32) → (wk_X2_nearBits_69 b p1 (wl_X2_nearBits_24 b p1  Q n) Q x2 x3 x4 h_7)) ∧ (((x2 >>> (r_8 &&& 31)) &&& (1 : Int32)) = (1 : Int32) → (wk_X2_nearBits_69 b p1 (wl_X2_nearBits_24 b p1  Q n) Q x2 (x3 ||| ((1 : Int32) <<< (x4 &&& 31))) x4 h_7)))))))))
set_option maxRecDepth 100000 in
set_option maxHeartbeats 4000000 in
theorem tl_X2_nearBits_24 {l : Launch} {ad : Nat → Nat} {X : gw_X} {b : Nat} {p1 : Int32}  {Q : Int32 → gw_H → Prop} (hb : gw_b b)  : ∀ (n : Nat) (x2 : Int32) (x3 : Int32) (x4 : Int32) (h : gw_H), wl_X2_nearBits_24 b p1  Q n x2 x3 x4 h → gw_G l vC ad cX2_nearBits RX2 5 (some .int) 2 44 Q X h 24 [some (.ref (ad b)), some (.int p1), some (.int x2), some (.int x3), some (.int x4)] [] := by
  intro n
  induction n with
  | zero => intro x2 x3 x4 h hw; exact hw.elim
  | succ n ih =>
    intro x2 x3 x4 h hw
    unfold wl_X2_nearBits_24 at hw
    refine gw_iload dX2_nearBits_24 rfl ?_
    refine gw_aload_n dX2_nearBits_26 rfl rfl ?_
    refine gw_getf (k := 2) (v := .ref (ad (b + 9))) (oX2 hb) clX2 inUX2 (Nat.le_of_ble_eq_true rfl) rfl lfX2_28 rfl dX2_nearBits_27 ?_
    refine gw_getfN (k := 8) (v := .int (h (b + 9) 8)) (oX1 hb) clX1 inUX1 (Nat.le_of_ble_eq_true rfl) rfl lfX2_76 rfl dX2_nearBits_30 ?_
    refine gw_icmp_ge (tgt := 75) dX2_nearBits_33 (by decide) (fun c_5 => ?_) (fun c_5 => ?_)
    · have hw := hw.1 c_5
      refine gw_iload_n dX2_nearBits_75 rfl rfl ?_
      exact gw_ireturn (ty := .int) hw rfl rfl dX2_nearBits_76
    · have hw := hw.2 c_5
      refine gw_iload dX2_nearBits_36 rfl ?_
      refine gw_iload_n dX2_nearBits_38 rfl rfl ?_
      refine gw_icmp_eq (tgt := 69) dX2_nearBits_39 (by decide) (fun c_6 => ?_) (fun c_6 => ?_)
      · have hw := hw.1 c_6
        exact tk_X2_nearBits_69 hb  ih x2 x3 x4 h hw
      · have hw := hw.2 c_6
        refine gw_iload_n dX2_nearBits_42 rfl rfl ?_
        refine gw_aload_n dX2_nearBits_43 rfl rfl ?_
        refine gw_getf (k := 2) (v := .ref (ad (b + 9))) (oX2 hb) clX2 inUX2 (Nat.le_of_ble_eq_true rfl) rfl lfX2_28 rfl dX2_nearBits_44 ?_
        refine gw_getfN (k := 1) (v := .ref (ad (b + 11))) (oX1 hb) clX1 inUX1 (Nat.le_of_ble_eq_true rfl) rfl lfX2_65 rfl dX2_nearBits_47 ?_
        refine gw_iload dX2_nearBits_50 rfl ?_
        refine gw_callNi (As := [.ref (ad (b + 11)), .int x4]) (rest := [.int x2]) rfl (gc_X5_at (ar_11 hb) hw) mX5_at lmX2_68 rfl rfl ⟨Nat.le_of_ble_eq_true rfl, Nat.le_of_ble_eq_true rfl⟩ (Nat.le_of_ble_eq_true rfl) dX2_nearBits_52 (fun r_8 h_7 hw => ?_)
        refine gw_ishr dX2_nearBits_55 ?_
        refine gw_iconst dX2_nearBits_56 ic_1 ?_
        refine gw_iand dX2_nearBits_57 ?_
        refine gw_iconst dX2_nearBits_58 ic_1 ?_
        refine gw_icmp_ne (tgt := 69) dX2_nearBits_59 (by decide) (fun c_9 => ?_) (fun c_9 => ?_)
        · have hw := hw.1 c_9
          exact tk_X2_nearBits_69 hb  ih x2 x3 x4 h_7 hw
        · have hw := hw.2 c_9
          refine gw_iload_n dX2_nearBits_62 rfl rfl ?_
          refine gw_iconst dX2_nearBits_63 ic_1 ?_
          refine gw_iload dX2_nearBits_64 rfl ?_
          refine gw_ishl dX2_nearBits_66 ?_
          refine gw_ior dX2_nearBits_67 ?_
          refine gw_istore_n (ls' := [some (.ref (ad b)), some (.int p1), some (.int x2), some (.int (x3 ||| ((1 : Int32) <<< (x4 &&& 31)))), some (.int x4)]) dX2_nearBits_68 rfl (Nat.le_of_ble_eq_true rfl) rfl ?_
          exact tk_X2_nearBits_69 hb  ih x2 (x3 ||| ((1 : Int32) <<< (x4 &&& 31))) x4 h_7 hw
def wp_X2_nearBits (h : gw_H) (b : Nat) (p1 : Int32) (Q : Int32 → gw_H → Prop) : Prop :=
  (wp_X5_at h (b + 11) 6 p1 (fun r_2 h_1 => (wp_X0_roomsHeardIn h_1 b r_2 (fun r_4 h_3 => (∃ n_10 : Nat, wl_X2_nearBits_24 b p1  Q n_10 r_4 (0 : Int32) (0 : Int32) h_3)))))
set_option maxRecDepth 100000 in
set_option maxHeartbeats 4000000 in
theorem gc_X2_nearBits {l : Launch} {ad : Nat → Nat} {h : gw_H} {b : Nat} {p1 : Int32} {Q : Int32 → gw_H → Prop} (hb : gw_b b) (hw : wp_X2_nearBits h b p1 Q) : gw_C l yX2_nearBits cX2_nearBits 5 (some .int) 2 44 vC ad [.ref (ad b), .int p1] h Q := by
  refine gw_entry (own := RX2) [some (.ref (ad b)), some (.int p1), none, none, none] pl_X2 rfl rfl (Nat.le_of_ble_eq_true rfl) rfl (fun X => ?_)
  unfold wp_X2_nearBits at hw
  refine gw_aload_n dX2_nearBits_0 rfl rfl ?_
  refine gw_getf (k := 0) (v := .ref (ad (b + 1))) (oX2 hb) clX2 inUX2 (Nat.le_of_ble_eq_true rfl) rfl lfX2_12 rfl dX2_nearBits_1 ?_
  refine gw_aload_n dX2_nearBits_4 rfl rfl ?_
  refine gw_getf (k := 2) (v := .ref (ad (b + 9))) (oX2 hb) clX2 inUX2 (Nat.le_of_ble_eq_true rfl) rfl lfX2_28 rfl dX2_nearBits_5 ?_
  refine gw_getfN (k := 1) (v := .ref (ad (b + 11))) (oX1 hb) clX1 inUX1 (Nat.le_of_ble_eq_true rfl) rfl lfX2_65 rfl dX2_nearBits_8 ?_
  refine gw_iload_n dX2_nearBits_11 rfl rfl ?_
  refine gw_callNi (As := [.ref (ad (b + 11)), .int p1]) (rest := [.ref (ad (b + 1))]) rfl (gc_X5_at (ar_11 hb) hw) mX5_at lmX2_68 rfl rfl ⟨Nat.le_of_ble_eq_true rfl, Nat.le_of_ble_eq_true rfl⟩ (Nat.le_of_ble_eq_true rfl) dX2_nearBits_12 (fun r_2 h_1 hw => ?_)
  refine gw_callVi (As := [.int r_2]) (rest := []) rfl (gc_X0_roomsHeardIn hb hw) mX0_roomsHeardIn lmX2_72 (oX0 hb) clX0 rfl rfl ⟨Nat.le_of_ble_eq_true rfl, Nat.le_of_ble_eq_true rfl⟩ (Nat.le_of_ble_eq_true rfl) dX2_nearBits_15 (fun r_4 h_3 hw => ?_)
  refine gw_istore_n (ls' := [some (.ref (ad b)), some (.int p1), some (.int r_4), none, none]) dX2_nearBits_18 rfl (Nat.le_of_ble_eq_true rfl) rfl ?_
  refine gw_iconst dX2_nearBits_19 ic_0 ?_
  refine gw_istore_n (ls' := [some (.ref (ad b)), some (.int p1), some (.int r_4), some (.int (0 : Int32)), none]) dX2_nearBits_20 rfl (Nat.le_of_ble_eq_true rfl) rfl ?_
  refine gw_iconst dX2_nearBits_21 ic_0 ?_
  refine gw_istore (ls' := [some (.ref (ad b)), some (.int p1), some (.int r_4), some (.int (0 : Int32)), some (.int (0 : Int32))]) dX2_nearBits_22 (Nat.le_of_ble_eq_true rfl) rfl ?_
  obtain ⟨n_10, hw⟩ := hw
  exact tl_X2_nearBits_24 hb  n_10 r_4 (0 : Int32) (0 : Int32) h_3 hw
def wk_X2_weakening_31 (b : Nat) (p1 : Int32)  (Q : Int32 → gw_H → Prop) : Int32 → Int32 → gw_H → Prop :=
  fun x2 s0 h => (wp_X3_has h b x2 (fun r_7 h_6 => ((r_7 = 0 → Q (0 : Int32) h_6) ∧ (¬ r_7 = 0 → (wp_X3_fading h_6 b x2 (h_6 b 3) (fun r_10 h_9 => Q (r_10 + s0) h_9))))))
set_option maxRecDepth 100000 in
set_option maxHeartbeats 4000000 in
theorem tk_X2_weakening_31 {l : Launch} {ad : Nat → Nat} {X : gw_X} {b : Nat} {p1 : Int32}  {Q : Int32 → gw_H → Prop} (hb : gw_b b)  (x2 : Int32) (s0 : Int32) (h : gw_H) (hw : wk_X2_weakening_31 b p1  Q x2 s0 h) : gw_G l vC ad cX2_weakening RX2 4 (some .int) 2 43 Q X h 31 [some (.ref (ad b)), some (.int p1), some (.int x2), none] [.int s0] := by
  unfold wk_X2_weakening_31 at hw
  refine gw_istore_n (ls' := [some (.ref (ad b)), some (.int p1), some (.int x2), some (.int s0)]) dX2_weakening_31 rfl (Nat.le_of_ble_eq_true rfl) rfl ?_
  refine gw_aload_n dX2_weakening_32 rfl rfl ?_
  refine gw_getf (k := 1) (v := .ref (ad (b + 5))) (oX2 hb) clX2 inUX2 (Nat.le_of_ble_eq_true rfl) rfl lfX2_21 rfl dX2_weakening_33 ?_
  refine gw_iload_n dX2_weakening_36 rfl rfl ?_
  refine gw_callVi (As := [.int x2]) (rest := []) rfl (gc_X3_has hb hw) mX3_has lmX2_79 (oX3 hb) clX3 rfl rfl ⟨Nat.le_of_ble_eq_true rfl, Nat.le_of_ble_eq_true rfl⟩ (Nat.le_of_ble_eq_true rfl) dX2_weakening_37 (fun r_7 h_6 hw => ?_)
  refine gw_if_eq (tgt := 60) dX2_weakening_40 (by decide) (fun c_8 => ?_) (fun c_8 => ?_)
  · have hw := hw.1 c_8
    refine gw_iconst dX2_weakening_60 ic_0 ?_
    exact gw_ireturn (ty := .int) hw rfl rfl dX2_weakening_61
  · have hw := hw.2 c_8
    refine gw_aload_n dX2_weakening_43 rfl rfl ?_
    refine gw_getf (k := 1) (v := .ref (ad (b + 5))) (oX2 hb) clX2 inUX2 (Nat.le_of_ble_eq_true rfl) rfl lfX2_21 rfl dX2_weakening_44 ?_
    refine gw_iload_n dX2_weakening_47 rfl rfl ?_
    refine gw_aload_n dX2_weakening_48 rfl rfl ?_
    refine gw_getf (k := 3) (v := .int (h_6 b 3)) (oX2 hb) clX2 inUX2 (Nat.le_of_ble_eq_true rfl) rfl lfX2_32 rfl dX2_weakening_49 ?_
    refine gw_callVi (As := [.int x2, .int (h_6 b 3)]) (rest := []) rfl (gc_X3_fading hb hw) mX3_fading lmX2_144 (oX3 hb) clX3 rfl rfl ⟨Nat.le_of_ble_eq_true rfl, Nat.le_of_ble_eq_true rfl⟩ (Nat.le_of_ble_eq_true rfl) dX2_weakening_52 (fun r_10 h_9 hw => ?_)
    refine gw_iload_n dX2_weakening_55 rfl rfl ?_
    refine gw_iadd dX2_weakening_56 ?_
    refine gw_goto (tgt := 61) dX2_weakening_57 (by decide) ?_
    exact gw_ireturn (ty := .int) hw rfl rfl dX2_weakening_61
def wp_X2_weakening (h : gw_H) (b : Nat) (p1 : Int32) (Q : Int32 → gw_H → Prop) : Prop :=
  (wp_X5_at h (b + 13) 6 p1 (fun r_2 h_1 => (wp_X5_at h_1 (b + 15) 6 p1 (fun r_4 h_3 => ((r_4 ≤ 0 → (wk_X2_weakening_31 b p1  Q r_2 (0 : Int32) h_3)) ∧ (¬ r_4 ≤ 0 → (wk_X2_weakening_31 b p1  Q r_2 (1 : Int32) h_3)))))))
set_option maxRecDepth 100000 in
set_option maxHeartbeats 4000000 in
theorem gc_X2_weakening {l : Launch} {ad : Nat → Nat} {h : gw_H} {b : Nat} {p1 : Int32} {Q : Int32 → gw_H → Prop} (hb : gw_b b) (hw : wp_X2_weakening h b p1 Q) : gw_C l yX2_weakening cX2_weakening 4 (some .int) 2 43 vC ad [.ref (ad b), .int p1] h Q := by
  refine gw_entry (own := RX2) [some (.ref (ad b)), some (.int p1), none, none] pl_X2 rfl rfl (Nat.le_of_ble_eq_true rfl) rfl (fun X => ?_)
  unfold wp_X2_weakening at hw
  refine gw_aload_n dX2_weakening_0 rfl rfl ?_
  refine gw_getf (k := 2) (v := .ref (ad (b + 9))) (oX2 hb) clX2 inUX2 (Nat.le_of_ble_eq_true rfl) rfl lfX2_28 rfl dX2_weakening_1 ?_
  refine gw_getfN (k := 3) (v := .ref (ad (b + 13))) (oX1 hb) clX1 inUX1 (Nat.le_of_ble_eq_true rfl) rfl lfX2_109 rfl dX2_weakening_4 ?_
  refine gw_iload_n dX2_weakening_7 rfl rfl ?_
  refine gw_callNi (As := [.ref (ad (b + 13)), .int p1]) (rest := []) rfl (gc_X5_at (ar_13 hb) hw) mX5_at lmX2_68 rfl rfl ⟨Nat.le_of_ble_eq_true rfl, Nat.le_of_ble_eq_true rfl⟩ (Nat.le_of_ble_eq_true rfl) dX2_weakening_8 (fun r_2 h_1 hw => ?_)
  refine gw_istore_n (ls' := [some (.ref (ad b)), some (.int p1), some (.int r_2), none]) dX2_weakening_11 rfl (Nat.le_of_ble_eq_true rfl) rfl ?_
  refine gw_aload_n dX2_weakening_12 rfl rfl ?_
  refine gw_getf (k := 2) (v := .ref (ad (b + 9))) (oX2 hb) clX2 inUX2 (Nat.le_of_ble_eq_true rfl) rfl lfX2_28 rfl dX2_weakening_13 ?_
  refine gw_getfN (k := 5) (v := .ref (ad (b + 15))) (oX1 hb) clX1 inUX1 (Nat.le_of_ble_eq_true rfl) rfl lfX2_141 rfl dX2_weakening_16 ?_
  refine gw_iload_n dX2_weakening_19 rfl rfl ?_
  refine gw_callNi (As := [.ref (ad (b + 15)), .int p1]) (rest := []) rfl (gc_X5_at (ar_15 hb) hw) mX5_at lmX2_68 rfl rfl ⟨Nat.le_of_ble_eq_true rfl, Nat.le_of_ble_eq_true rfl⟩ (Nat.le_of_ble_eq_true rfl) dX2_weakening_20 (fun r_4 h_3 hw => ?_)
  refine gw_if_le (tgt := 30) dX2_weakening_23 (by decide) (fun c_5 => ?_) (fun c_5 => ?_)
  · have hw := hw.1 c_5
    refine gw_iconst dX2_weakening_30 ic_0 ?_
    exact tk_X2_weakening_31 hb  r_2 (0 : Int32) h_3 hw
  · have hw := hw.2 c_5
    refine gw_iconst dX2_weakening_26 ic_1 ?_
    refine gw_goto (tgt := 31) dX2_weakening_27 (by decide) ?_
    exact tk_X2_weakening_31 hb  r_2 (1 : Int32) h_3 hw
def wk_X2_passHour_186 (b : Nat) (K103 : Int32 → Int32 → gw_H → Prop) (Q : Int32 → gw_H → Prop) : Int32 → Int32 → gw_H → Prop :=
  fun x1 x2 h => (wp_X1_chew h b x2 (fun _ h_12 => (K103 x1 (x2 + (1 : Int32)) h_12)))
set_option maxRecDepth 100000 in
set_option maxHeartbeats 4000000 in
theorem tk_X2_passHour_186 {l : Launch} {ad : Nat → Nat} {X : gw_X} {b : Nat} {K103 : Int32 → Int32 → gw_H → Prop} {Q : Int32 → gw_H → Prop} (hb : gw_b b) (hK103 : ∀ (y1 : Int32) (y2 : Int32) (h : gw_H), K103 y1 y2 h → gw_G l vC ad cX2_passHour RX2 4 (some .int) 3 70 Q X h 103 [some (.ref (ad b)), some (.int y1), some (.int y2), none] []) (x1 : Int32) (x2 : Int32) (h : gw_H) (hw : wk_X2_passHour_186 b K103 Q x1 x2 h) : gw_G l vC ad cX2_passHour RX2 4 (some .int) 3 70 Q X h 186 [some (.ref (ad b)), some (.int x1), some (.int x2), none] [] := by
  unfold wk_X2_passHour_186 at hw
  refine gw_aload_n dX2_passHour_186 rfl rfl ?_
  refine gw_getf (k := 2) (v := .ref (ad (b + 9))) (oX2 hb) clX2 inUX2 (Nat.le_of_ble_eq_true rfl) rfl lfX2_28 rfl dX2_passHour_187 ?_
  refine gw_iload_n dX2_passHour_190 rfl rfl ?_
  refine gw_callVv (As := [.int x2]) (rest := []) rfl (gc_X1_chew hb hw) mX1_chew lmX2_122 (oX1 hb) clX1 rfl rfl ⟨Nat.le_of_ble_eq_true rfl, Nat.le_of_ble_eq_true rfl⟩ (Nat.le_of_ble_eq_true rfl) dX2_passHour_191 (fun h_12 hw => ?_)
  refine gw_iinc (ls' := [some (.ref (ad b)), some (.int x1), some (.int (x2 + (1 : Int32))), none]) dX2_passHour_194 rfl (congrArg (fun z => x2 + z) ic_1) (Nat.le_of_ble_eq_true rfl) rfl ?_
  refine gw_goto (tgt := 103) dX2_passHour_197 (by decide) ?_
  exact hK103 x1 (x2 + (1 : Int32)) h_12 hw
def wl_X2_passHour_103 (b : Nat)  (Q : Int32 → gw_H → Prop) : Nat → Int32 → Int32 → gw_H → Prop
  | 0 => fun _ _ _ => False
  | n + 1 => fun x1 x2 h => (((h (b + 9) 8) ≤ x2 → Q x1 (gw_up h b 3 ((h b 3) + (1 : Int32)))) ∧ (¬ (h (b + 9) 8) ≤ x2 → (wp_X5_at h (b + 20) 6 x2 (fun r_5 h_4 => (wp_X3_has h_4 b r_5 (fun r_7 h_6 => ((r_7 = 0 → (wp_X2_weakening h_6 b x2 (fun r_10 h_9 => (wp_X1_weaken h_9 b x2 r_10 (fun _ h_11 => (wk_X2_passHour_186 b (wl_X2_passHour_103 b  Q n) Q x1 x2 h_11)))))) ∧ (¬ r_7 = 0 → (wp_X3_fresh h_6 b r_5 (fun r_14 h_13 => (wp_X5_at h_13 (b + 21) 6 x2 (fun r_16 h_15 => (wp_X5_at h_15 (b + 22) 6 x2 (fun r_18 h_17 => (wp_X1_receive h_17 b x2 r_5 r_14 r_16 r_18 (fun _ h_19 => (wk_X2_passHour_186 b (wl_X2_passHour_103 b  Q n) Q (x1 + (1 : Int32)) x2 h_19)))))))))))))))))
set_option maxRecDepth 100000 in
set_option maxHeartbeats 4000000 in
theorem tl_X2_passHour_103 {l : Launch} {ad : Nat → Nat} {X : gw_X} {b : Nat}  {Q : Int32 → gw_H → Prop} (hb : gw_b b)  : ∀ (n : Nat) (x1 : Int32) (x2 : Int32) (h : gw_H), wl_X2_passHour_103 b  Q n x1 x2 h → gw_G l vC ad cX2_passHour RX2 4 (some .int) 3 70 Q X h 103 [some (.ref (ad b)), some (.int x1), some (.int x2), none] [] := by
  intro n
  induction n with
  | zero => intro x1 x2 h hw; exact hw.elim
  | succ n ih =>
    intro x1 x2 h hw
    unfold wl_X2_passHour_103 at hw
    refine gw_iload_n dX2_passHour_103 rfl rfl ?_
    refine gw_aload_n dX2_passHour_104 rfl rfl ?_
    refine gw_getf (k := 2) (v := .ref (ad (b + 9))) (oX2 hb) clX2 inUX2 (Nat.le_of_ble_eq_true rfl) rfl lfX2_28 rfl dX2_passHour_105 ?_
    refine gw_getfN (k := 8) (v := .int (h (b + 9) 8)) (oX1 hb) clX1 inUX1 (Nat.le_of_ble_eq_true rfl) rfl lfX2_76 rfl dX2_passHour_108 ?_
    refine gw_icmp_ge (tgt := 200) dX2_passHour_111 (by decide) (fun c_3 => ?_) (fun c_3 => ?_)
    · have hw := hw.1 c_3
      refine gw_aload_n dX2_passHour_200 rfl rfl ?_
      refine gw_dup dX2_passHour_201 rfl ?_
      refine gw_getf (k := 3) (v := .int (h b 3)) (oX2 hb) clX2 inUX2 (Nat.le_of_ble_eq_true rfl) rfl lfX2_32 rfl dX2_passHour_202 ?_
      refine gw_iconst dX2_passHour_205 ic_1 ?_
      refine gw_iadd dX2_passHour_206 ?_
      refine gw_putf (k := 3) (ty := .int) (oX2 hb) clX2 inUX2 tyX2_ok nmX2 (Nat.le_of_ble_eq_true rfl) rfl lfX2_32 (by decide +kernel) rfl rfl st_X2_3 dX2_passHour_207 ?_
      refine gw_iload_n dX2_passHour_210 rfl rfl ?_
      exact gw_ireturn (ty := .int) hw rfl rfl dX2_passHour_211
    · have hw := hw.2 c_3
      refine gw_aload_n dX2_passHour_114 rfl rfl ?_
      refine gw_getf (k := 7) (v := .ref (ad (b + 20))) (oX2 hb) clX2 inUX2 (Nat.le_of_ble_eq_true rfl) rfl lfX2_46 rfl dX2_passHour_115 ?_
      refine gw_iload_n dX2_passHour_118 rfl rfl ?_
      refine gw_callNi (As := [.ref (ad (b + 20)), .int x2]) (rest := []) rfl (gc_X5_at (ar_20 hb) hw) mX5_at lmX2_68 rfl rfl ⟨Nat.le_of_ble_eq_true rfl, Nat.le_of_ble_eq_true rfl⟩ (Nat.le_of_ble_eq_true rfl) dX2_passHour_119 (fun r_5 h_4 hw => ?_)
      refine gw_istore_n (ls' := [some (.ref (ad b)), some (.int x1), some (.int x2), some (.int r_5)]) dX2_passHour_122 rfl (Nat.le_of_ble_eq_true rfl) rfl ?_
      refine gw_aload_n dX2_passHour_123 rfl rfl ?_
      refine gw_getf (k := 1) (v := .ref (ad (b + 5))) (oX2 hb) clX2 inUX2 (Nat.le_of_ble_eq_true rfl) rfl lfX2_21 rfl dX2_passHour_124 ?_
      refine gw_iload_n dX2_passHour_127 rfl rfl ?_
      refine gw_callVi (As := [.int r_5]) (rest := []) rfl (gc_X3_has hb hw) mX3_has lmX2_79 (oX3 hb) clX3 rfl rfl ⟨Nat.le_of_ble_eq_true rfl, Nat.le_of_ble_eq_true rfl⟩ (Nat.le_of_ble_eq_true rfl) dX2_passHour_128 (fun r_7 h_6 hw => ?_)
      refine gw_if_eq (tgt := 173) dX2_passHour_131 (by decide) (fun c_8 => ?_) (fun c_8 => ?_)
      · have hw := hw.1 c_8
        refine gw_aload_n dX2_passHour_173 rfl rfl ?_
        refine gw_getf (k := 2) (v := .ref (ad (b + 9))) (oX2 hb) clX2 inUX2 (Nat.le_of_ble_eq_true rfl) rfl lfX2_28 rfl dX2_passHour_174 ?_
        refine gw_iload_n dX2_passHour_177 rfl rfl ?_
        refine gw_aload_n dX2_passHour_178 rfl rfl ?_
        refine gw_iload_n dX2_passHour_179 rfl rfl ?_
        refine gw_callVi (As := [.int x2]) (rest := [.int x2, .ref (ad (b + 9))]) rfl (gc_X2_weakening hb hw) mX2_weakening lmX2_115 (oX2 hb) clX2 rfl rfl ⟨Nat.le_of_ble_eq_true rfl, Nat.le_of_ble_eq_true rfl⟩ (Nat.le_of_ble_eq_true rfl) dX2_passHour_180 (fun r_10 h_9 hw => ?_)
        refine gw_callVv (As := [.int x2, .int r_10]) (rest := []) rfl (gc_X1_weaken hb hw) mX1_weaken lmX2_118 (oX1 hb) clX1 rfl rfl ⟨Nat.le_of_ble_eq_true rfl, Nat.le_of_ble_eq_true rfl⟩ (Nat.le_of_ble_eq_true rfl) dX2_passHour_183 (fun h_11 hw => ?_)
        refine gw_forget (ls' := [some (.ref (ad b)), some (.int x1), some (.int x2), none]) (gw_sub.s (gw_sub.s (gw_sub.s (gw_sub.n gw_sub.z)))) ?_
        exact tk_X2_passHour_186 hb  ih x1 x2 h_11 hw
      · have hw := hw.2 c_8
        refine gw_aload_n dX2_passHour_134 rfl rfl ?_
        refine gw_getf (k := 2) (v := .ref (ad (b + 9))) (oX2 hb) clX2 inUX2 (Nat.le_of_ble_eq_true rfl) rfl lfX2_28 rfl dX2_passHour_135 ?_
        refine gw_iload_n dX2_passHour_138 rfl rfl ?_
        refine gw_iload_n dX2_passHour_139 rfl rfl ?_
        refine gw_aload_n dX2_passHour_140 rfl rfl ?_
        refine gw_getf (k := 1) (v := .ref (ad (b + 5))) (oX2 hb) clX2 inUX2 (Nat.le_of_ble_eq_true rfl) rfl lfX2_21 rfl dX2_passHour_141 ?_
        refine gw_iload_n dX2_passHour_144 rfl rfl ?_
        refine gw_callVi (As := [.int r_5]) (rest := [.int r_5, .int x2, .ref (ad (b + 9))]) rfl (gc_X3_fresh hb hw) mX3_fresh lmX2_83 (oX3 hb) clX3 rfl rfl ⟨Nat.le_of_ble_eq_true rfl, Nat.le_of_ble_eq_true rfl⟩ (Nat.le_of_ble_eq_true rfl) dX2_passHour_145 (fun r_14 h_13 hw => ?_)
        refine gw_aload_n dX2_passHour_148 rfl rfl ?_
        refine gw_getf (k := 8) (v := .ref (ad (b + 21))) (oX2 hb) clX2 inUX2 (Nat.le_of_ble_eq_true rfl) rfl lfX2_49 rfl dX2_passHour_149 ?_
        refine gw_iload_n dX2_passHour_152 rfl rfl ?_
        refine gw_callNi (As := [.ref (ad (b + 21)), .int x2]) (rest := [.int r_14, .int r_5, .int x2, .ref (ad (b + 9))]) rfl (gc_X5_at (ar_21 hb) hw) mX5_at lmX2_68 rfl rfl ⟨Nat.le_of_ble_eq_true rfl, Nat.le_of_ble_eq_true rfl⟩ (Nat.le_of_ble_eq_true rfl) dX2_passHour_153 (fun r_16 h_15 hw => ?_)
        refine gw_aload_n dX2_passHour_156 rfl rfl ?_
        refine gw_getf (k := 9) (v := .ref (ad (b + 22))) (oX2 hb) clX2 inUX2 (Nat.le_of_ble_eq_true rfl) rfl lfX2_52 rfl dX2_passHour_157 ?_
        refine gw_iload_n dX2_passHour_160 rfl rfl ?_
        refine gw_callNi (As := [.ref (ad (b + 22)), .int x2]) (rest := [.int r_16, .int r_14, .int r_5, .int x2, .ref (ad (b + 9))]) rfl (gc_X5_at (ar_22 hb) hw) mX5_at lmX2_68 rfl rfl ⟨Nat.le_of_ble_eq_true rfl, Nat.le_of_ble_eq_true rfl⟩ (Nat.le_of_ble_eq_true rfl) dX2_passHour_161 (fun r_18 h_17 hw => ?_)
        refine gw_callVv (As := [.int x2, .int r_5, .int r_14, .int r_16, .int r_18]) (rest := []) rfl (gc_X1_receive hb hw) mX1_receive lmX2_86 (oX1 hb) clX1 rfl rfl ⟨Nat.le_of_ble_eq_true rfl, Nat.le_of_ble_eq_true rfl⟩ (Nat.le_of_ble_eq_true rfl) dX2_passHour_164 (fun h_19 hw => ?_)
        refine gw_iinc (ls' := [some (.ref (ad b)), some (.int (x1 + (1 : Int32))), some (.int x2), some (.int r_5)]) dX2_passHour_167 rfl (congrArg (fun z => x1 + z) ic_1) (Nat.le_of_ble_eq_true rfl) rfl ?_
        refine gw_goto (tgt := 186) dX2_passHour_170 (by decide) ?_
        refine gw_forget (ls' := [some (.ref (ad b)), some (.int (x1 + (1 : Int32))), some (.int x2), none]) (gw_sub.s (gw_sub.s (gw_sub.s (gw_sub.n gw_sub.z)))) ?_
        exact tk_X2_passHour_186 hb  ih (x1 + (1 : Int32)) x2 h_19 hw
def wl_X2_passHour_77 (b : Nat)  (Q : Int32 → gw_H → Prop) : Nat → Int32 → gw_H → Prop
  | 0 => fun _ _ => False
  | n + 1 => fun x1 h => (((h (b + 9) 8) ≤ x1 → (∃ n_20 : Nat, wl_X2_passHour_103 b  Q n_20 (0 : Int32) (0 : Int32) h)) ∧ (¬ (h (b + 9) 8) ≤ x1 → (wp_X2_listen h b x1 (fun _ h_21 => ((wl_X2_passHour_77 b  Q n) (x1 + (1 : Int32)) h_21)))))
set_option maxRecDepth 100000 in
set_option maxHeartbeats 4000000 in
theorem tl_X2_passHour_77 {l : Launch} {ad : Nat → Nat} {X : gw_X} {b : Nat}  {Q : Int32 → gw_H → Prop} (hb : gw_b b)  : ∀ (n : Nat) (x1 : Int32) (h : gw_H), wl_X2_passHour_77 b  Q n x1 h → gw_G l vC ad cX2_passHour RX2 4 (some .int) 3 70 Q X h 77 [some (.ref (ad b)), some (.int x1), none, none] [] := by
  intro n
  induction n with
  | zero => intro x1 h hw; exact hw.elim
  | succ n ih =>
    intro x1 h hw
    unfold wl_X2_passHour_77 at hw
    refine gw_iload_n dX2_passHour_77 rfl rfl ?_
    refine gw_aload_n dX2_passHour_78 rfl rfl ?_
    refine gw_getf (k := 2) (v := .ref (ad (b + 9))) (oX2 hb) clX2 inUX2 (Nat.le_of_ble_eq_true rfl) rfl lfX2_28 rfl dX2_passHour_79 ?_
    refine gw_getfN (k := 8) (v := .int (h (b + 9) 8)) (oX1 hb) clX1 inUX1 (Nat.le_of_ble_eq_true rfl) rfl lfX2_76 rfl dX2_passHour_82 ?_
    refine gw_icmp_ge (tgt := 99) dX2_passHour_85 (by decide) (fun c_2 => ?_) (fun c_2 => ?_)
    · have hw := hw.1 c_2
      refine gw_iconst dX2_passHour_99 ic_0 ?_
      refine gw_istore_n (ls' := [some (.ref (ad b)), some (.int (0 : Int32)), none, none]) dX2_passHour_100 rfl (Nat.le_of_ble_eq_true rfl) rfl ?_
      refine gw_iconst dX2_passHour_101 ic_0 ?_
      refine gw_istore_n (ls' := [some (.ref (ad b)), some (.int (0 : Int32)), some (.int (0 : Int32)), none]) dX2_passHour_102 rfl (Nat.le_of_ble_eq_true rfl) rfl ?_
      obtain ⟨n_20, hw⟩ := hw
      exact tl_X2_passHour_103 hb  n_20 (0 : Int32) (0 : Int32) h hw
    · have hw := hw.2 c_2
      refine gw_aload_n dX2_passHour_88 rfl rfl ?_
      refine gw_iload_n dX2_passHour_89 rfl rfl ?_
      refine gw_callVv (As := [.int x1]) (rest := []) rfl (gc_X2_listen hb hw) mX2_listen lmX2_112 (oX2 hb) clX2 rfl rfl ⟨Nat.le_of_ble_eq_true rfl, Nat.le_of_ble_eq_true rfl⟩ (Nat.le_of_ble_eq_true rfl) dX2_passHour_90 (fun h_21 hw => ?_)
      refine gw_iinc (ls' := [some (.ref (ad b)), some (.int (x1 + (1 : Int32))), none, none]) dX2_passHour_93 rfl (congrArg (fun z => x1 + z) ic_1) (Nat.le_of_ble_eq_true rfl) rfl ?_
      refine gw_goto (tgt := 77) dX2_passHour_96 (by decide) ?_
      exact ih (x1 + (1 : Int32)) h_21 hw
def wk_X2_passHour_66 (b : Nat) (K2 : Int32 → gw_H → Prop) (Q : Int32 → gw_H → Prop) : Int32 → Int32 → Int32 → gw_H → Prop :=
  fun x1 s0 s1 h => (wp_X5_put h (b + 19) 6 s1 s0 (fun _ h_29 => (K2 (x1 + (1 : Int32)) h_29)))
set_option maxRecDepth 100000 in
set_option maxHeartbeats 4000000 in
theorem tk_X2_passHour_66 {l : Launch} {ad : Nat → Nat} {X : gw_X} {b : Nat} {K2 : Int32 → gw_H → Prop} {Q : Int32 → gw_H → Prop} (hb : gw_b b) (hK2 : ∀ (y1 : Int32) (h : gw_H), K2 y1 h → gw_G l vC ad cX2_passHour RX2 4 (some .int) 3 70 Q X h 2 [some (.ref (ad b)), some (.int y1), none, none] []) (x1 : Int32) (s0 : Int32) (s1 : Int32) (h : gw_H) (hw : wk_X2_passHour_66 b K2 Q x1 s0 s1 h) : gw_G l vC ad cX2_passHour RX2 4 (some .int) 3 70 Q X h 66 [some (.ref (ad b)), some (.int x1), none, none] [.int s0, .int s1, .ref (ad (b + 19))] := by
  unfold wk_X2_passHour_66 at hw
  refine gw_callNv (As := [.ref (ad (b + 19)), .int s1, .int s0]) (rest := []) rfl (gc_X5_put (ar_19 hb) hw) mX5_put lmX2_101 rfl rfl ⟨Nat.le_of_ble_eq_true rfl, Nat.le_of_ble_eq_true rfl⟩ (Nat.le_of_ble_eq_true rfl) dX2_passHour_66 (fun h_29 hw => ?_)
  refine gw_iinc (ls' := [some (.ref (ad b)), some (.int (x1 + (1 : Int32))), none, none]) dX2_passHour_69 rfl (congrArg (fun z => x1 + z) ic_1) (Nat.le_of_ble_eq_true rfl) rfl ?_
  refine gw_goto (tgt := 2) dX2_passHour_72 (by decide) ?_
  exact hK2 (x1 + (1 : Int32)) h_29 hw
def wl_X2_passHour_2 (b : Nat)  (Q : Int32 → gw_H → Prop) : Nat → Int32 → gw_H → Prop
  | 0 => fun _ _ => False
  | n + 1 => fun x1 h => (((h (b + 9) 8) ≤ x1 → (∃ n_22 : Nat, wl_X2_passHour_77 b  Q n_22 (0 : Int32) h)) ∧ (¬ (h (b + 9) 8) ≤ x1 → (wp_X2_nearBits h b x1 (fun r_24 h_23 => (wp_X5_put h_23 (b + 18) 6 x1 r_24 (fun _ h_25 => (wp_X1_hums h_25 b x1 (h_25 b 4) (h_25 b 3) (fun r_27 h_26 => ((r_27 = 0 → (wk_X2_passHour_66 b (wl_X2_passHour_2 b  Q n) Q x1 (-9 : Int32) x1 h_26)) ∧ (¬ r_27 = 0 → (wp_X5_at h_26 (b + 13) 6 x1 (fun r_31 h_30 => (wk_X2_passHour_66 b (wl_X2_passHour_2 b  Q n) Q x1 r_31 x1 h_30)))))))))))))
set_option maxRecDepth 100000 in
set_option maxHeartbeats 4000000 in
theorem tl_X2_passHour_2 {l : Launch} {ad : Nat → Nat} {X : gw_X} {b : Nat}  {Q : Int32 → gw_H → Prop} (hb : gw_b b)  : ∀ (n : Nat) (x1 : Int32) (h : gw_H), wl_X2_passHour_2 b  Q n x1 h → gw_G l vC ad cX2_passHour RX2 4 (some .int) 3 70 Q X h 2 [some (.ref (ad b)), some (.int x1), none, none] [] := by
  intro n
  induction n with
  | zero => intro x1 h hw; exact hw.elim
  | succ n ih =>
    intro x1 h hw
    unfold wl_X2_passHour_2 at hw
    refine gw_iload_n dX2_passHour_2 rfl rfl ?_
    refine gw_aload_n dX2_passHour_3 rfl rfl ?_
    refine gw_getf (k := 2) (v := .ref (ad (b + 9))) (oX2 hb) clX2 inUX2 (Nat.le_of_ble_eq_true rfl) rfl lfX2_28 rfl dX2_passHour_4 ?_
    refine gw_getfN (k := 8) (v := .int (h (b + 9) 8)) (oX1 hb) clX1 inUX1 (Nat.le_of_ble_eq_true rfl) rfl lfX2_76 rfl dX2_passHour_7 ?_
    refine gw_icmp_ge (tgt := 75) dX2_passHour_10 (by decide) (fun c_1 => ?_) (fun c_1 => ?_)
    · have hw := hw.1 c_1
      refine gw_iconst dX2_passHour_75 ic_0 ?_
      refine gw_istore_n (ls' := [some (.ref (ad b)), some (.int (0 : Int32)), none, none]) dX2_passHour_76 rfl (Nat.le_of_ble_eq_true rfl) rfl ?_
      obtain ⟨n_22, hw⟩ := hw
      exact tl_X2_passHour_77 hb  n_22 (0 : Int32) h hw
    · have hw := hw.2 c_1
      refine gw_aload_n dX2_passHour_13 rfl rfl ?_
      refine gw_getf (k := 5) (v := .ref (ad (b + 18))) (oX2 hb) clX2 inUX2 (Nat.le_of_ble_eq_true rfl) rfl lfX2_39 rfl dX2_passHour_14 ?_
      refine gw_iload_n dX2_passHour_17 rfl rfl ?_
      refine gw_aload_n dX2_passHour_18 rfl rfl ?_
      refine gw_iload_n dX2_passHour_19 rfl rfl ?_
      refine gw_callVi (As := [.int x1]) (rest := [.int x1, .ref (ad (b + 18))]) rfl (gc_X2_nearBits hb hw) mX2_nearBits lmX2_98 (oX2 hb) clX2 rfl rfl ⟨Nat.le_of_ble_eq_true rfl, Nat.le_of_ble_eq_true rfl⟩ (Nat.le_of_ble_eq_true rfl) dX2_passHour_20 (fun r_24 h_23 hw => ?_)
      refine gw_callNv (As := [.ref (ad (b + 18)), .int x1, .int r_24]) (rest := []) rfl (gc_X5_put (ar_18 hb) hw) mX5_put lmX2_101 rfl rfl ⟨Nat.le_of_ble_eq_true rfl, Nat.le_of_ble_eq_true rfl⟩ (Nat.le_of_ble_eq_true rfl) dX2_passHour_23 (fun h_25 hw => ?_)
      refine gw_aload_n dX2_passHour_26 rfl rfl ?_
      refine gw_getf (k := 6) (v := .ref (ad (b + 19))) (oX2 hb) clX2 inUX2 (Nat.le_of_ble_eq_true rfl) rfl lfX2_43 rfl dX2_passHour_27 ?_
      refine gw_iload_n dX2_passHour_30 rfl rfl ?_
      refine gw_aload_n dX2_passHour_31 rfl rfl ?_
      refine gw_getf (k := 2) (v := .ref (ad (b + 9))) (oX2 hb) clX2 inUX2 (Nat.le_of_ble_eq_true rfl) rfl lfX2_28 rfl dX2_passHour_32 ?_
      refine gw_iload_n dX2_passHour_35 rfl rfl ?_
      refine gw_aload_n dX2_passHour_36 rfl rfl ?_
      refine gw_getf (k := 4) (v := .int (h_25 b 4)) (oX2 hb) clX2 inUX2 (Nat.le_of_ble_eq_true rfl) rfl lfX2_36 rfl dX2_passHour_37 ?_
      refine gw_aload_n dX2_passHour_40 rfl rfl ?_
      refine gw_getf (k := 3) (v := .int (h_25 b 3)) (oX2 hb) clX2 inUX2 (Nat.le_of_ble_eq_true rfl) rfl lfX2_32 rfl dX2_passHour_41 ?_
      refine gw_callVi (As := [.int x1, .int (h_25 b 4), .int (h_25 b 3)]) (rest := [.int x1, .ref (ad (b + 19))]) rfl (gc_X1_hums hb hw) mX1_hums lmX2_105 (oX1 hb) clX1 rfl rfl ⟨Nat.le_of_ble_eq_true rfl, Nat.le_of_ble_eq_true rfl⟩ (Nat.le_of_ble_eq_true rfl) dX2_passHour_44 (fun r_27 h_26 hw => ?_)
      refine gw_if_eq (tgt := 64) dX2_passHour_47 (by decide) (fun c_28 => ?_) (fun c_28 => ?_)
      · have hw := hw.1 c_28
        refine gw_bipush dX2_passHour_64 bp_m9 ?_
        exact tk_X2_passHour_66 hb  ih x1 (-9 : Int32) x1 h_26 hw
      · have hw := hw.2 c_28
        refine gw_aload_n dX2_passHour_50 rfl rfl ?_
        refine gw_getf (k := 2) (v := .ref (ad (b + 9))) (oX2 hb) clX2 inUX2 (Nat.le_of_ble_eq_true rfl) rfl lfX2_28 rfl dX2_passHour_51 ?_
        refine gw_getfN (k := 3) (v := .ref (ad (b + 13))) (oX1 hb) clX1 inUX1 (Nat.le_of_ble_eq_true rfl) rfl lfX2_109 rfl dX2_passHour_54 ?_
        refine gw_iload_n dX2_passHour_57 rfl rfl ?_
        refine gw_callNi (As := [.ref (ad (b + 13)), .int x1]) (rest := [.int x1, .ref (ad (b + 19))]) rfl (gc_X5_at (ar_13 hb) hw) mX5_at lmX2_68 rfl rfl ⟨Nat.le_of_ble_eq_true rfl, Nat.le_of_ble_eq_true rfl⟩ (Nat.le_of_ble_eq_true rfl) dX2_passHour_58 (fun r_31 h_30 hw => ?_)
        refine gw_goto (tgt := 66) dX2_passHour_61 (by decide) ?_
        exact tk_X2_passHour_66 hb  ih x1 r_31 x1 h_30 hw
def wp_X2_passHour (h : gw_H) (b : Nat) (Q : Int32 → gw_H → Prop) : Prop :=
  (∃ n_32 : Nat, wl_X2_passHour_2 b  Q n_32 (0 : Int32) h)
set_option maxRecDepth 100000 in
set_option maxHeartbeats 4000000 in
theorem gc_X2_passHour {l : Launch} {ad : Nat → Nat} {h : gw_H} {b : Nat} {Q : Int32 → gw_H → Prop} (hb : gw_b b) (hw : wp_X2_passHour h b Q) : gw_C l yX2_passHour cX2_passHour 4 (some .int) 3 70 vC ad [.ref (ad b)] h Q := by
  refine gw_entry (own := RX2) [some (.ref (ad b)), none, none, none] pl_X2 rfl rfl (Nat.le_of_ble_eq_true rfl) rfl (fun X => ?_)
  unfold wp_X2_passHour at hw
  refine gw_iconst dX2_passHour_0 ic_0 ?_
  refine gw_istore_n (ls' := [some (.ref (ad b)), some (.int (0 : Int32)), none, none]) dX2_passHour_1 rfl (Nat.le_of_ble_eq_true rfl) rfl ?_
  obtain ⟨n_32, hw⟩ := hw
  exact tl_X2_passHour_2 hb  n_32 (0 : Int32) h hw
def wl_X2_passHours_2 (b : Nat) (p1 : Int32)  (Q : Int32 → gw_H → Prop) : Nat → Int32 → gw_H → Prop
  | 0 => fun _ _ => False
  | n + 1 => fun x2 h => ((p1 ≤ x2 → Q 0 h) ∧ (¬ p1 ≤ x2 → (wp_X2_passHour h b (fun r_3 h_2 => ((wl_X2_passHours_2 b p1  Q n) (x2 + (1 : Int32)) h_2)))))
set_option maxRecDepth 100000 in
set_option maxHeartbeats 4000000 in
theorem tl_X2_passHours_2 {l : Launch} {ad : Nat → Nat} {X : gw_X} {b : Nat} {p1 : Int32}  {Q : Int32 → gw_H → Prop} (hb : gw_b b)  : ∀ (n : Nat) (x2 : Int32) (h : gw_H), wl_X2_passHours_2 b p1  Q n x2 h → gw_G l vC ad cX2_passHours RX2 3 none 4 93 Q X h 2 [some (.ref (ad b)), some (.int p1), some (.int x2)] [] := by
  intro n
  induction n with
  | zero => intro x2 h hw; exact hw.elim
  | succ n ih =>
    intro x2 h hw
    unfold wl_X2_passHours_2 at hw
    refine gw_iload_n dX2_passHours_2 rfl rfl ?_
    refine gw_iload_n dX2_passHours_3 rfl rfl ?_
    refine gw_icmp_ge (tgt := 18) dX2_passHours_4 (by decide) (fun c_1 => ?_) (fun c_1 => ?_)
    · have hw := hw.1 c_1
      exact gw_return hw rfl dX2_passHours_18
    · have hw := hw.2 c_1
      refine gw_aload_n dX2_passHours_7 rfl rfl ?_
      refine gw_callVi (As := []) (rest := []) rfl (gc_X2_passHour hb hw) mX2_passHour lmX2_94 (oX2 hb) clX2 rfl rfl ⟨Nat.le_of_ble_eq_true rfl, Nat.le_of_ble_eq_true rfl⟩ (Nat.le_of_ble_eq_true rfl) dX2_passHours_8 (fun r_3 h_2 hw => ?_)
      refine gw_pop dX2_passHours_11 rfl ?_
      refine gw_iinc (ls' := [some (.ref (ad b)), some (.int p1), some (.int (x2 + (1 : Int32)))]) dX2_passHours_12 rfl (congrArg (fun z => x2 + z) ic_1) (Nat.le_of_ble_eq_true rfl) rfl ?_
      refine gw_goto (tgt := 2) dX2_passHours_15 (by decide) ?_
      exact ih (x2 + (1 : Int32)) h_2 hw
def wp_X2_passHours (h : gw_H) (b : Nat) (p1 : Int32) (Q : Int32 → gw_H → Prop) : Prop :=
  (∃ n_4 : Nat, wl_X2_passHours_2 b p1  Q n_4 (0 : Int32) h)
set_option maxRecDepth 100000 in
set_option maxHeartbeats 4000000 in
theorem gc_X2_passHours {l : Launch} {ad : Nat → Nat} {h : gw_H} {b : Nat} {p1 : Int32} {Q : Int32 → gw_H → Prop} (hb : gw_b b) (hw : wp_X2_passHours h b p1 Q) : gw_C l yX2_passHours cX2_passHours 3 none 4 93 vC ad [.ref (ad b), .int p1] h Q := by
  refine gw_entry (own := RX2) [some (.ref (ad b)), some (.int p1), none] pl_X2 rfl rfl (Nat.le_of_ble_eq_true rfl) rfl (fun X => ?_)
  unfold wp_X2_passHours at hw
  refine gw_iconst dX2_passHours_0 ic_0 ?_
  refine gw_istore_n (ls' := [some (.ref (ad b)), some (.int p1), some (.int (0 : Int32))]) dX2_passHours_1 rfl (Nat.le_of_ble_eq_true rfl) rfl ?_
  obtain ⟨n_4, hw⟩ := hw
  exact tl_X2_passHours_2 hb  n_4 (0 : Int32) h hw
def wp_X2_takeAs (h : gw_H) (b : Nat) (b2 : Nat) (Q : Int32 → gw_H → Prop) : Prop :=
  (wp_X0_takeAs h b b2 (fun _ h_1 => (wp_X3_takeAs h_1 b b2 (fun _ h_2 => (wp_X1_takeAs h_2 b b2 (fun _ h_3 => Q 0 (gw_up (gw_up h_3 b 3 (h_3 b2 3)) b 4 ((gw_up h_3 b 3 (h_3 b2 3)) b2 4))))))))
set_option maxRecDepth 100000 in
set_option maxHeartbeats 4000000 in
theorem gc_X2_takeAs {l : Launch} {ad : Nat → Nat} {h : gw_H} {b : Nat} {b2 : Nat} {Q : Int32 → gw_H → Prop} (hb : gw_b b) (hb2 : gw_b b2) (hw : wp_X2_takeAs h b b2 Q) : gw_C l yX2_takeAs cX2_takeAs 2 none 3 103 vC ad [.ref (ad b), .ref (ad b2)] h Q := by
  refine gw_entry (own := RX2) [some (.ref (ad b)), some (.ref (ad b2))] pl_X2 rfl rfl (Nat.le_of_ble_eq_true rfl) rfl (fun X => ?_)
  unfold wp_X2_takeAs at hw
  refine gw_aload_n dX2_takeAs_0 rfl rfl ?_
  refine gw_getf (k := 0) (v := .ref (ad (b + 1))) (oX2 hb) clX2 inUX2 (Nat.le_of_ble_eq_true rfl) rfl lfX2_12 rfl dX2_takeAs_1 ?_
  refine gw_aload_n dX2_takeAs_4 rfl rfl ?_
  refine gw_getf (k := 0) (v := .ref (ad (b2 + 1))) (oX2 hb2) clX2 inUX2 (Nat.le_of_ble_eq_true rfl) rfl lfX2_12 rfl dX2_takeAs_5 ?_
  refine gw_callVv (As := [.ref (ad (b2 + 1))]) (rest := []) rfl (gc_X0_takeAs hb hb2 hw) mX0_takeAs lmX2_55 (oX0 hb) clX0 rfl rfl ⟨Nat.le_of_ble_eq_true rfl, Nat.le_of_ble_eq_true rfl⟩ (Nat.le_of_ble_eq_true rfl) dX2_takeAs_8 (fun h_1 hw => ?_)
  refine gw_aload_n dX2_takeAs_11 rfl rfl ?_
  refine gw_getf (k := 1) (v := .ref (ad (b + 5))) (oX2 hb) clX2 inUX2 (Nat.le_of_ble_eq_true rfl) rfl lfX2_21 rfl dX2_takeAs_12 ?_
  refine gw_aload_n dX2_takeAs_15 rfl rfl ?_
  refine gw_getf (k := 1) (v := .ref (ad (b2 + 5))) (oX2 hb2) clX2 inUX2 (Nat.le_of_ble_eq_true rfl) rfl lfX2_21 rfl dX2_takeAs_16 ?_
  refine gw_callVv (As := [.ref (ad (b2 + 5))]) (rest := []) rfl (gc_X3_takeAs hb hb2 hw) mX3_takeAs lmX2_59 (oX3 hb) clX3 rfl rfl ⟨Nat.le_of_ble_eq_true rfl, Nat.le_of_ble_eq_true rfl⟩ (Nat.le_of_ble_eq_true rfl) dX2_takeAs_19 (fun h_2 hw => ?_)
  refine gw_aload_n dX2_takeAs_22 rfl rfl ?_
  refine gw_getf (k := 2) (v := .ref (ad (b + 9))) (oX2 hb) clX2 inUX2 (Nat.le_of_ble_eq_true rfl) rfl lfX2_28 rfl dX2_takeAs_23 ?_
  refine gw_aload_n dX2_takeAs_26 rfl rfl ?_
  refine gw_getf (k := 2) (v := .ref (ad (b2 + 9))) (oX2 hb2) clX2 inUX2 (Nat.le_of_ble_eq_true rfl) rfl lfX2_28 rfl dX2_takeAs_27 ?_
  refine gw_callVv (As := [.ref (ad (b2 + 9))]) (rest := []) rfl (gc_X1_takeAs hb hb2 hw) mX1_takeAs lmX2_62 (oX1 hb) clX1 rfl rfl ⟨Nat.le_of_ble_eq_true rfl, Nat.le_of_ble_eq_true rfl⟩ (Nat.le_of_ble_eq_true rfl) dX2_takeAs_30 (fun h_3 hw => ?_)
  refine gw_aload_n dX2_takeAs_33 rfl rfl ?_
  refine gw_aload_n dX2_takeAs_34 rfl rfl ?_
  refine gw_getf (k := 3) (v := .int (h_3 b2 3)) (oX2 hb2) clX2 inUX2 (Nat.le_of_ble_eq_true rfl) rfl lfX2_32 rfl dX2_takeAs_35 ?_
  refine gw_putf (k := 3) (ty := .int) (oX2 hb) clX2 inUX2 tyX2_ok nmX2 (Nat.le_of_ble_eq_true rfl) rfl lfX2_32 (by decide +kernel) rfl rfl st_X2_3 dX2_takeAs_38 ?_
  refine gw_aload_n dX2_takeAs_41 rfl rfl ?_
  refine gw_aload_n dX2_takeAs_42 rfl rfl ?_
  refine gw_getf (k := 4) (v := .int ((gw_up h_3 b 3 (h_3 b2 3)) b2 4)) (oX2 hb2) clX2 inUX2 (Nat.le_of_ble_eq_true rfl) rfl lfX2_36 rfl dX2_takeAs_43 ?_
  refine gw_putf (k := 4) (ty := .int) (oX2 hb) clX2 inUX2 tyX2_ok nmX2 (Nat.le_of_ble_eq_true rfl) rfl lfX2_36 (by decide +kernel) rfl rfl st_X2_4 dX2_takeAs_46 ?_
  exact gw_return hw rfl dX2_takeAs_49
