def wp_X6_at (h : gw_H) (p1 : Int32) (p2 : Int32) (Q : Int32 → gw_H → Prop) : Prop :=
  (vp_in (((37 : Int32) + ((6 : Int32) * p1)) + p2) 73 ∧ Q (h 2 (((37 : Int32) + ((6 : Int32) * p1)) + p2).toNatClampNeg) h)
set_option maxRecDepth 100000 in
set_option maxHeartbeats 4000000 in
theorem gc_X6_at {l : Launch} {ad : Nat → Nat} {h : gw_H} {p1 : Int32} {p2 : Int32} {Q : Int32 → gw_H → Prop}  (hw : wp_X6_at h p1 p2 Q) : gw_C l yX6_at cX6_at 3 (some .int) 0 0 vM ad [.ref (ad 0), .int p1, .int p2] h Q := by
  refine gw_entry (own := RX6) [some (.ref (ad 0)), some (.int p1), some (.int p2)] pl_X6 rfl rfl (Nat.le_of_ble_eq_true rfl) rfl (fun X => ?_)
  unfold wp_X6_at at hw
  refine gw_aload_n dX6_at_0 rfl rfl ?_
  refine gw_getf (k := 1) (v := .ref (ad 2)) oX6 clX6 inUX6 (Nat.le_of_ble_eq_true rfl) rfl lfX6_13 rfl dX6_at_1 ?_
  refine gw_bipush dX6_at_4 bp_37 ?_
  refine gw_bipush dX6_at_6 bp_6 ?_
  refine gw_iload_n dX6_at_8 rfl rfl ?_
  refine gw_imul dX6_at_9 ?_
  refine gw_iadd dX6_at_10 ?_
  refine gw_iload_n dX6_at_11 rfl rfl ?_
  refine gw_iadd dX6_at_12 ?_
  have q_1 := hw.1
  have hw := hw.2
  refine gw_iald am_2 q_1 rfl dX6_at_13 ?_
  exact gw_ireturn (ty := .int) hw rfl rfl dX6_at_14
def wk_X6_areNear_117 (p1 : Int32) (p2 : Int32) (K33 : Int32 → Int32 → Int32 → gw_H → Prop) (Q : Int32 → gw_H → Prop) : Int32 → Int32 → Int32 → gw_H → Prop :=
  fun x3 x4 x5 h => (K33 x3 x4 (x5 + (1 : Int32)) h)
set_option maxRecDepth 100000 in
set_option maxHeartbeats 4000000 in
theorem tk_X6_areNear_117 {l : Launch} {ad : Nat → Nat} {X : gw_X} {p1 : Int32} {p2 : Int32} {K33 : Int32 → Int32 → Int32 → gw_H → Prop} {Q : Int32 → gw_H → Prop}  (hK33 : ∀ (y3 : Int32) (y4 : Int32) (y5 : Int32) (h : gw_H), K33 y3 y4 y5 h → gw_G l vM ad cX6_areNear RX6 8 (some .boolean) 1 22 Q X h 33 [some (.ref (ad 0)), some (.int p1), some (.int p2), some (.int y3), some (.int y4), some (.int y5), none, none] []) (x3 : Int32) (x4 : Int32) (x5 : Int32) (h : gw_H) (hw : wk_X6_areNear_117 p1 p2 K33 Q x3 x4 x5 h) : gw_G l vM ad cX6_areNear RX6 8 (some .boolean) 1 22 Q X h 117 [some (.ref (ad 0)), some (.int p1), some (.int p2), some (.int x3), some (.int x4), some (.int x5), none, none] [] := by
  unfold wk_X6_areNear_117 at hw
  refine gw_iinc (ls' := [some (.ref (ad 0)), some (.int p1), some (.int p2), some (.int x3), some (.int x4), some (.int (x5 + (1 : Int32))), none, none]) dX6_areNear_117 rfl (congrArg (fun z => x5 + z) ic_1) (Nat.le_of_ble_eq_true rfl) rfl ?_
  refine gw_goto (tgt := 33) dX6_areNear_120 (by decide) ?_
  exact hK33 x3 x4 (x5 + (1 : Int32)) h hw
def wk_X6_areNear_102 (p1 : Int32) (p2 : Int32) (K33 : Int32 → Int32 → Int32 → gw_H → Prop) (Q : Int32 → gw_H → Prop) : Int32 → Int32 → Int32 → Int32 → Int32 → gw_H → Prop :=
  fun x3 x4 x5 x6 x7 h => ((¬ x6 = x4 → (wk_X6_areNear_117 p1 p2 K33 Q x3 x4 x5 h)) ∧ (x6 = x4 → ((¬ x7 = x3 → (wk_X6_areNear_117 p1 p2 K33 Q x3 x4 x5 h)) ∧ (x7 = x3 → Q (1 : Int32) h))))
set_option maxRecDepth 100000 in
set_option maxHeartbeats 4000000 in
theorem tk_X6_areNear_102 {l : Launch} {ad : Nat → Nat} {X : gw_X} {p1 : Int32} {p2 : Int32} {K33 : Int32 → Int32 → Int32 → gw_H → Prop} {Q : Int32 → gw_H → Prop}  (hK33 : ∀ (y3 : Int32) (y4 : Int32) (y5 : Int32) (h : gw_H), K33 y3 y4 y5 h → gw_G l vM ad cX6_areNear RX6 8 (some .boolean) 1 22 Q X h 33 [some (.ref (ad 0)), some (.int p1), some (.int p2), some (.int y3), some (.int y4), some (.int y5), none, none] []) (x3 : Int32) (x4 : Int32) (x5 : Int32) (x6 : Int32) (x7 : Int32) (h : gw_H) (hw : wk_X6_areNear_102 p1 p2 K33 Q x3 x4 x5 x6 x7 h) : gw_G l vM ad cX6_areNear RX6 8 (some .boolean) 1 22 Q X h 102 [some (.ref (ad 0)), some (.int p1), some (.int p2), some (.int x3), some (.int x4), some (.int x5), some (.int x6), some (.int x7)] [] := by
  unfold wk_X6_areNear_102 at hw
  refine gw_iload dX6_areNear_102 rfl ?_
  refine gw_iload dX6_areNear_104 rfl ?_
  refine gw_icmp_ne (tgt := 117) dX6_areNear_106 (by decide) (fun c_10 => ?_) (fun c_10 => ?_)
  · have hw := hw.1 c_10
    refine gw_forget (ls' := [some (.ref (ad 0)), some (.int p1), some (.int p2), some (.int x3), some (.int x4), some (.int x5), none, none]) (gw_sub.s (gw_sub.s (gw_sub.s (gw_sub.s (gw_sub.s (gw_sub.s (gw_sub.n (gw_sub.n gw_sub.z)))))))) ?_
    exact tk_X6_areNear_117  hK33 x3 x4 x5 h hw
  · have hw := hw.2 c_10
    refine gw_iload dX6_areNear_109 rfl ?_
    refine gw_iload_n dX6_areNear_111 rfl rfl ?_
    refine gw_icmp_ne (tgt := 117) dX6_areNear_112 (by decide) (fun c_11 => ?_) (fun c_11 => ?_)
    · have hw := hw.1 c_11
      refine gw_forget (ls' := [some (.ref (ad 0)), some (.int p1), some (.int p2), some (.int x3), some (.int x4), some (.int x5), none, none]) (gw_sub.s (gw_sub.s (gw_sub.s (gw_sub.s (gw_sub.s (gw_sub.s (gw_sub.n (gw_sub.n gw_sub.z)))))))) ?_
      exact tk_X6_areNear_117  hK33 x3 x4 x5 h hw
    · have hw := hw.2 c_11
      refine gw_iconst dX6_areNear_115 ic_1 ?_
      exact gw_ireturn (ty := .boolean) hw rfl rfl dX6_areNear_116
def wl_X6_areNear_33 (p1 : Int32) (p2 : Int32)  (Q : Int32 → gw_H → Prop) : Nat → Int32 → Int32 → Int32 → gw_H → Prop
  | 0 => fun _ _ _ _ => False
  | n + 1 => fun x3 x4 x5 h => (((h 2 0) ≤ x5 → Q (0 : Int32) h) ∧ (¬ (h 2 0) ≤ x5 → (vp_in ((6 : Int32) + ((2 : Int32) * x5)) 73 ∧ (vp_in (((6 : Int32) + ((2 : Int32) * x5)) + (1 : Int32)) 73 ∧ ((¬ (((h 2 1) >>> (x5 &&& 31)) &&& (1 : Int32)) = (1 : Int32) → (wk_X6_areNear_117 p1 p2 (wl_X6_areNear_33 p1 p2  Q n) Q x3 x4 x5 h)) ∧ ((((h 2 1) >>> (x5 &&& 31)) &&& (1 : Int32)) = (1 : Int32) → ((¬ (h 2 ((6 : Int32) + ((2 : Int32) * x5)).toNatClampNeg) = x3 → (wk_X6_areNear_102 p1 p2 (wl_X6_areNear_33 p1 p2  Q n) Q x3 x4 x5 (h 2 ((6 : Int32) + ((2 : Int32) * x5)).toNatClampNeg) (h 2 (((6 : Int32) + ((2 : Int32) * x5)) + (1 : Int32)).toNatClampNeg) h)) ∧ ((h 2 ((6 : Int32) + ((2 : Int32) * x5)).toNatClampNeg) = x3 → (((h 2 (((6 : Int32) + ((2 : Int32) * x5)) + (1 : Int32)).toNatClampNeg) = x4 → Q (1 : Int32) h) ∧ (¬ (h 2 (((6 : Int32) + ((2 : Int32) * x5)) + (1 : Int32)).toNatClampNeg) = x4 → (wk_X6_areNear_102 p1 p2 (wl_X6_areNear_33 p1 p2  Q n) Q x3 x4 x5 (h 2 ((6 : Int32) + ((2 : Int32) * x5)).toNatClampNeg) (h 2 (((6 : Int32) + ((2 : Int32) * x5)) + (1 : Int32)).toNatClampNeg) h)))))))))))
set_option maxRecDepth 100000 in
set_option maxHeartbeats 4000000 in
theorem tl_X6_areNear_33 {l : Launch} {ad : Nat → Nat} {X : gw_X} {p1 : Int32} {p2 : Int32}  {Q : Int32 → gw_H → Prop}   : ∀ (n : Nat) (x3 : Int32) (x4 : Int32) (x5 : Int32) (h : gw_H), wl_X6_areNear_33 p1 p2  Q n x3 x4 x5 h → gw_G l vM ad cX6_areNear RX6 8 (some .boolean) 1 22 Q X h 33 [some (.ref (ad 0)), some (.int p1), some (.int p2), some (.int x3), some (.int x4), some (.int x5), none, none] [] := by
  intro n
  induction n with
  | zero => intro x3 x4 x5 h hw; exact hw.elim
  | succ n ih =>
    intro x3 x4 x5 h hw
    unfold wl_X6_areNear_33 at hw
    refine gw_iload dX6_areNear_33 rfl ?_
    refine gw_aload_n dX6_areNear_35 rfl rfl ?_
    refine gw_getf (k := 1) (v := .ref (ad 2)) oX6 clX6 inUX6 (Nat.le_of_ble_eq_true rfl) rfl lfX6_13 rfl dX6_areNear_36 ?_
    refine gw_iconst dX6_areNear_39 ic_0 ?_
    refine gw_iald am_2 in_0_73 cl_0 dX6_areNear_40 ?_
    refine gw_icmp_ge (tgt := 123) dX6_areNear_41 (by decide) (fun c_7 => ?_) (fun c_7 => ?_)
    · have hw := hw.1 c_7
      refine gw_iconst dX6_areNear_123 ic_0 ?_
      exact gw_ireturn (ty := .boolean) hw rfl rfl dX6_areNear_124
    · have hw := hw.2 c_7
      refine gw_aload_n dX6_areNear_44 rfl rfl ?_
      refine gw_getf (k := 1) (v := .ref (ad 2)) oX6 clX6 inUX6 (Nat.le_of_ble_eq_true rfl) rfl lfX6_13 rfl dX6_areNear_45 ?_
      refine gw_bipush dX6_areNear_48 bp_6 ?_
      refine gw_iconst dX6_areNear_50 ic_2 ?_
      refine gw_iload dX6_areNear_51 rfl ?_
      refine gw_imul dX6_areNear_53 ?_
      refine gw_iadd dX6_areNear_54 ?_
      have q_14 := hw.1
      have hw := hw.2
      refine gw_iald am_2 q_14 rfl dX6_areNear_55 ?_
      refine gw_istore (ls' := [some (.ref (ad 0)), some (.int p1), some (.int p2), some (.int x3), some (.int x4), some (.int x5), some (.int (h 2 ((6 : Int32) + ((2 : Int32) * x5)).toNatClampNeg)), none]) dX6_areNear_56 (Nat.le_of_ble_eq_true rfl) rfl ?_
      refine gw_aload_n dX6_areNear_58 rfl rfl ?_
      refine gw_getf (k := 1) (v := .ref (ad 2)) oX6 clX6 inUX6 (Nat.le_of_ble_eq_true rfl) rfl lfX6_13 rfl dX6_areNear_59 ?_
      refine gw_bipush dX6_areNear_62 bp_6 ?_
      refine gw_iconst dX6_areNear_64 ic_2 ?_
      refine gw_iload dX6_areNear_65 rfl ?_
      refine gw_imul dX6_areNear_67 ?_
      refine gw_iadd dX6_areNear_68 ?_
      refine gw_iconst dX6_areNear_69 ic_1 ?_
      refine gw_iadd dX6_areNear_70 ?_
      have q_13 := hw.1
      have hw := hw.2
      refine gw_iald am_2 q_13 rfl dX6_areNear_71 ?_
      refine gw_istore (ls' := [some (.ref (ad 0)), some (.int p1), some (.int p2), some (.int x3), some (.int x4), some (.int x5), some (.int (h 2 ((6 : Int32) + ((2 : Int32) * x5)).toNatClampNeg)), some (.int (h 2 (((6 : Int32) + ((2 : Int32) * x5)) + (1 : Int32)).toNatClampNeg))]) dX6_areNear_72 (Nat.le_of_ble_eq_true rfl) rfl ?_
      refine gw_aload_n dX6_areNear_74 rfl rfl ?_
      refine gw_getf (k := 1) (v := .ref (ad 2)) oX6 clX6 inUX6 (Nat.le_of_ble_eq_true rfl) rfl lfX6_13 rfl dX6_areNear_75 ?_
      refine gw_iconst dX6_areNear_78 ic_1 ?_
      refine gw_iald am_2 in_1_73 cl_1 dX6_areNear_79 ?_
      refine gw_iload dX6_areNear_80 rfl ?_
      refine gw_ishr dX6_areNear_82 ?_
      refine gw_iconst dX6_areNear_83 ic_1 ?_
      refine gw_iand dX6_areNear_84 ?_
      refine gw_iconst dX6_areNear_85 ic_1 ?_
      refine gw_icmp_ne (tgt := 117) dX6_areNear_86 (by decide) (fun c_8 => ?_) (fun c_8 => ?_)
      · have hw := hw.1 c_8
        refine gw_forget (ls' := [some (.ref (ad 0)), some (.int p1), some (.int p2), some (.int x3), some (.int x4), some (.int x5), none, none]) (gw_sub.s (gw_sub.s (gw_sub.s (gw_sub.s (gw_sub.s (gw_sub.s (gw_sub.n (gw_sub.n gw_sub.z)))))))) ?_
        exact tk_X6_areNear_117   ih x3 x4 x5 h hw
      · have hw := hw.2 c_8
        refine gw_iload dX6_areNear_89 rfl ?_
        refine gw_iload_n dX6_areNear_91 rfl rfl ?_
        refine gw_icmp_ne (tgt := 102) dX6_areNear_92 (by decide) (fun c_9 => ?_) (fun c_9 => ?_)
        · have hw := hw.1 c_9
          exact tk_X6_areNear_102   ih x3 x4 x5 (h 2 ((6 : Int32) + ((2 : Int32) * x5)).toNatClampNeg) (h 2 (((6 : Int32) + ((2 : Int32) * x5)) + (1 : Int32)).toNatClampNeg) h hw
        · have hw := hw.2 c_9
          refine gw_iload dX6_areNear_95 rfl ?_
          refine gw_iload dX6_areNear_97 rfl ?_
          refine gw_icmp_eq (tgt := 115) dX6_areNear_99 (by decide) (fun c_12 => ?_) (fun c_12 => ?_)
          · have hw := hw.1 c_12
            refine gw_iconst dX6_areNear_115 ic_1 ?_
            exact gw_ireturn (ty := .boolean) hw rfl rfl dX6_areNear_116
          · have hw := hw.2 c_12
            exact tk_X6_areNear_102   ih x3 x4 x5 (h 2 ((6 : Int32) + ((2 : Int32) * x5)).toNatClampNeg) (h 2 (((6 : Int32) + ((2 : Int32) * x5)) + (1 : Int32)).toNatClampNeg) h hw
def wp_X6_areNear (h : gw_H) (p1 : Int32) (p2 : Int32) (Q : Int32 → gw_H → Prop) : Prop :=
  (wp_X6_at h p1 (1 : Int32) (fun r_2 h_1 => (wp_X6_at h_1 p2 (1 : Int32) (fun r_4 h_3 => ((¬ p1 = p2 → ((¬ r_2 = r_4 → (∃ n_15 : Nat, wl_X6_areNear_33 p1 p2  Q n_15 r_2 r_4 (0 : Int32) h_3)) ∧ (r_2 = r_4 → Q (1 : Int32) h_3))) ∧ (p1 = p2 → Q (0 : Int32) h_3))))))
set_option maxRecDepth 100000 in
set_option maxHeartbeats 4000000 in
theorem gc_X6_areNear {l : Launch} {ad : Nat → Nat} {h : gw_H} {p1 : Int32} {p2 : Int32} {Q : Int32 → gw_H → Prop}  (hw : wp_X6_areNear h p1 p2 Q) : gw_C l yX6_areNear cX6_areNear 8 (some .boolean) 1 22 vM ad [.ref (ad 0), .int p1, .int p2] h Q := by
  refine gw_entry (own := RX6) [some (.ref (ad 0)), some (.int p1), some (.int p2), none, none, none, none, none] pl_X6 rfl rfl (Nat.le_of_ble_eq_true rfl) rfl (fun X => ?_)
  unfold wp_X6_areNear at hw
  refine gw_aload_n dX6_areNear_0 rfl rfl ?_
  refine gw_iload_n dX6_areNear_1 rfl rfl ?_
  refine gw_iconst dX6_areNear_2 ic_1 ?_
  refine gw_callVi (As := [.int p1, .int (1 : Int32)]) (rest := []) rfl (gc_X6_at  hw) mX6_at lmX6_61 oX6 clX6 rfl rfl ⟨Nat.le_of_ble_eq_true rfl, Nat.le_of_ble_eq_true rfl⟩ (Nat.le_of_ble_eq_true rfl) dX6_areNear_3 (fun r_2 h_1 hw => ?_)
  refine gw_istore_n (ls' := [some (.ref (ad 0)), some (.int p1), some (.int p2), some (.int r_2), none, none, none, none]) dX6_areNear_6 rfl (Nat.le_of_ble_eq_true rfl) rfl ?_
  refine gw_aload_n dX6_areNear_7 rfl rfl ?_
  refine gw_iload_n dX6_areNear_8 rfl rfl ?_
  refine gw_iconst dX6_areNear_9 ic_1 ?_
  refine gw_callVi (As := [.int p2, .int (1 : Int32)]) (rest := []) rfl (gc_X6_at  hw) mX6_at lmX6_61 oX6 clX6 rfl rfl ⟨Nat.le_of_ble_eq_true rfl, Nat.le_of_ble_eq_true rfl⟩ (Nat.le_of_ble_eq_true rfl) dX6_areNear_10 (fun r_4 h_3 hw => ?_)
  refine gw_istore (ls' := [some (.ref (ad 0)), some (.int p1), some (.int p2), some (.int r_2), some (.int r_4), none, none, none]) dX6_areNear_13 (Nat.le_of_ble_eq_true rfl) rfl ?_
  refine gw_iload_n dX6_areNear_15 rfl rfl ?_
  refine gw_iload_n dX6_areNear_16 rfl rfl ?_
  refine gw_icmp_ne (tgt := 22) dX6_areNear_17 (by decide) (fun c_5 => ?_) (fun c_5 => ?_)
  · have hw := hw.1 c_5
    refine gw_iload_n dX6_areNear_22 rfl rfl ?_
    refine gw_iload dX6_areNear_23 rfl ?_
    refine gw_icmp_ne (tgt := 30) dX6_areNear_25 (by decide) (fun c_6 => ?_) (fun c_6 => ?_)
    · have hw := hw.1 c_6
      refine gw_iconst dX6_areNear_30 ic_0 ?_
      refine gw_istore (ls' := [some (.ref (ad 0)), some (.int p1), some (.int p2), some (.int r_2), some (.int r_4), some (.int (0 : Int32)), none, none]) dX6_areNear_31 (Nat.le_of_ble_eq_true rfl) rfl ?_
      obtain ⟨n_15, hw⟩ := hw
      exact tl_X6_areNear_33   n_15 r_2 r_4 (0 : Int32) h_3 hw
    · have hw := hw.2 c_6
      refine gw_iconst dX6_areNear_28 ic_1 ?_
      exact gw_ireturn (ty := .boolean) hw rfl rfl dX6_areNear_29
  · have hw := hw.2 c_5
    refine gw_iconst dX6_areNear_20 ic_0 ?_
    exact gw_ireturn (ty := .boolean) hw rfl rfl dX6_areNear_21
def wp_X6_bar (h : gw_H) (p1 : Int32) (Q : Int32 → gw_H → Prop) : Prop :=
  (wp_X6_at h p1 (2 : Int32) (fun r_2 h_1 => (wp_X6_at h_1 p1 (0 : Int32) (fun r_4 h_3 => ((r_4 = (2 : Int32) → Q (99 : Int32) h_3) ∧ (¬ r_4 = (2 : Int32) → ((r_4 = (3 : Int32) → Q (r_2 / (2 : Int32)) h_3) ∧ (¬ r_4 = (3 : Int32) → ((r_4 = (4 : Int32) → Q (r_2 + (3 : Int32)) h_3) ∧ (¬ r_4 = (4 : Int32) → ((r_4 = (5 : Int32) → Q (0 : Int32) h_3) ∧ (¬ r_4 = (5 : Int32) → Q r_2 h_3))))))))))))
set_option maxRecDepth 100000 in
set_option maxHeartbeats 4000000 in
theorem gc_X6_bar {l : Launch} {ad : Nat → Nat} {h : gw_H} {p1 : Int32} {Q : Int32 → gw_H → Prop}  (hw : wp_X6_bar h p1 Q) : gw_C l yX6_bar cX6_bar 3 (some .int) 1 22 vM ad [.ref (ad 0), .int p1] h Q := by
  refine gw_entry (own := RX6) [some (.ref (ad 0)), some (.int p1), none] pl_X6 rfl rfl (Nat.le_of_ble_eq_true rfl) rfl (fun X => ?_)
  unfold wp_X6_bar at hw
  refine gw_aload_n dX6_bar_0 rfl rfl ?_
  refine gw_iload_n dX6_bar_1 rfl rfl ?_
  refine gw_iconst dX6_bar_2 ic_2 ?_
  refine gw_callVi (As := [.int p1, .int (2 : Int32)]) (rest := []) rfl (gc_X6_at  hw) mX6_at lmX6_61 oX6 clX6 rfl rfl ⟨Nat.le_of_ble_eq_true rfl, Nat.le_of_ble_eq_true rfl⟩ (Nat.le_of_ble_eq_true rfl) dX6_bar_3 (fun r_2 h_1 hw => ?_)
  refine gw_istore_n (ls' := [some (.ref (ad 0)), some (.int p1), some (.int r_2)]) dX6_bar_6 rfl (Nat.le_of_ble_eq_true rfl) rfl ?_
  refine gw_aload_n dX6_bar_7 rfl rfl ?_
  refine gw_iload_n dX6_bar_8 rfl rfl ?_
  refine gw_iconst dX6_bar_9 ic_0 ?_
  refine gw_callVi (As := [.int p1, .int (0 : Int32)]) (rest := []) rfl (gc_X6_at  hw) mX6_at lmX6_61 oX6 clX6 rfl rfl ⟨Nat.le_of_ble_eq_true rfl, Nat.le_of_ble_eq_true rfl⟩ (Nat.le_of_ble_eq_true rfl) dX6_bar_10 (fun r_4 h_3 hw => ?_)
  by_cases c_5 : r_4 = (2 : Int32)
  · have hw := hw.1 c_5
    refine gw_tin (k := (2 : Int32)) (off := 31) (tgt := 44) dX6_bar_13 c_5 (by decide) (by decide) (by decide) (by decide) ?_
    refine gw_bipush dX6_bar_44 bp_99 ?_
    exact gw_ireturn (ty := .int) hw rfl rfl dX6_bar_46
  · have hw := hw.2 c_5
    by_cases c_6 : r_4 = (3 : Int32)
    · have hw := hw.1 c_6
      refine gw_tin (k := (3 : Int32)) (off := 34) (tgt := 47) dX6_bar_13 c_6 (by decide) (by decide) (by decide) (by decide) ?_
      refine gw_iload_n dX6_bar_47 rfl rfl ?_
      refine gw_iconst dX6_bar_48 ic_2 ?_
      refine gw_idiv dX6_bar_49 (by decide) ?_
      exact gw_ireturn (ty := .int) hw rfl rfl dX6_bar_50
    · have hw := hw.2 c_6
      by_cases c_7 : r_4 = (4 : Int32)
      · have hw := hw.1 c_7
        refine gw_tin (k := (4 : Int32)) (off := 38) (tgt := 51) dX6_bar_13 c_7 (by decide) (by decide) (by decide) (by decide) ?_
        refine gw_iload_n dX6_bar_51 rfl rfl ?_
        refine gw_iconst dX6_bar_52 ic_3 ?_
        refine gw_iadd dX6_bar_53 ?_
        exact gw_ireturn (ty := .int) hw rfl rfl dX6_bar_54
      · have hw := hw.2 c_7
        by_cases c_8 : r_4 = (5 : Int32)
        · have hw := hw.1 c_8
          refine gw_tin (k := (5 : Int32)) (off := 42) (tgt := 55) dX6_bar_13 c_8 (by decide) (by decide) (by decide) (by decide) ?_
          refine gw_iconst dX6_bar_55 ic_0 ?_
          exact gw_ireturn (ty := .int) hw rfl rfl dX6_bar_56
        · have hw := hw.2 c_8
          refine gw_tout (tgt := 57) dX6_bar_13 (by have q0 := lv_neT c_5 (a := 2) (by decide); have q1 := lv_neT c_6 (a := 3) (by decide); have q2 := lv_neT c_7 (a := 4) (by decide); have q3 := lv_neT c_8 (a := 5) (by decide); omega) (by decide) ?_
          refine gw_iload_n dX6_bar_57 rfl rfl ?_
          exact gw_ireturn (ty := .int) hw rfl rfl dX6_bar_58
def wl_X6_lays_2 (a1 : Nat) (n1 : Nat) (a2 : Nat) (n2 : Nat)  (Q : Int32 → gw_H → Prop) : Nat → Int32 → gw_H → Prop
  | 0 => fun _ _ => False
  | n + 1 => fun x2 h => (((73 : Int32) ≤ x2 → Q 0 h) ∧ (¬ (73 : Int32) ≤ x2 → (vp_in x2 n1 ∧ (vp_in x2 n2 ∧ ((wl_X6_lays_2 a1 n1 a2 n2  Q n) (x2 + (1 : Int32)) (gw_up h a2 x2.toNatClampNeg (h a1 x2.toNatClampNeg)))))))
set_option maxRecDepth 100000 in
set_option maxHeartbeats 4000000 in
theorem tl_X6_lays_2 {l : Launch} {ad : Nat → Nat} {X : gw_X} {a1 : Nat} {n1 : Nat} {a2 : Nat} {n2 : Nat}  {Q : Int32 → gw_H → Prop} (hA1 : gw_Ar vM a1 n1) (hA2 : gw_Ar vM a2 n2)  : ∀ (n : Nat) (x2 : Int32) (h : gw_H), wl_X6_lays_2 a1 n1 a2 n2  Q n x2 h → gw_G l vM ad cX6_lays RX6 3 none 0 0 Q X h 2 [some (.ref (ad a1)), some (.ref (ad a2)), some (.int x2)] [] := by
  intro n
  induction n with
  | zero => intro x2 h hw; exact hw.elim
  | succ n ih =>
    intro x2 h hw
    unfold wl_X6_lays_2 at hw
    refine gw_iload_n dX6_lays_2 rfl rfl ?_
    refine gw_bipush dX6_lays_3 bp_73 ?_
    refine gw_icmp_ge (tgt := 20) dX6_lays_5 (by decide) (fun c_1 => ?_) (fun c_1 => ?_)
    · have hw := hw.1 c_1
      exact gw_return hw rfl dX6_lays_20
    · have hw := hw.2 c_1
      refine gw_aload_n dX6_lays_8 rfl rfl ?_
      refine gw_iload_n dX6_lays_9 rfl rfl ?_
      refine gw_aload_n dX6_lays_10 rfl rfl ?_
      refine gw_iload_n dX6_lays_11 rfl rfl ?_
      have q_3 := hw.1
      have hw := hw.2
      refine gw_iald hA1 q_3 rfl dX6_lays_12 ?_
      have q_2 := hw.1
      have hw := hw.2
      refine gw_iast hA2 q_2 rfl dX6_lays_13 ?_
      refine gw_iinc (ls' := [some (.ref (ad a1)), some (.ref (ad a2)), some (.int (x2 + (1 : Int32)))]) dX6_lays_14 rfl (congrArg (fun z => x2 + z) ic_1) (Nat.le_of_ble_eq_true rfl) rfl ?_
      refine gw_goto (tgt := 2) dX6_lays_17 (by decide) ?_
      exact ih (x2 + (1 : Int32)) (gw_up h a2 x2.toNatClampNeg (h a1 x2.toNatClampNeg)) hw
def wp_X6_lays (h : gw_H) (a1 : Nat) (n1 : Nat) (a2 : Nat) (n2 : Nat) (Q : Int32 → gw_H → Prop) : Prop :=
  (∃ n_4 : Nat, wl_X6_lays_2 a1 n1 a2 n2  Q n_4 (0 : Int32) h)
set_option maxRecDepth 100000 in
set_option maxHeartbeats 4000000 in
theorem gc_X6_lays {l : Launch} {ad : Nat → Nat} {h : gw_H} {a1 : Nat} {n1 : Nat} {a2 : Nat} {n2 : Nat} {Q : Int32 → gw_H → Prop} (hA1 : gw_Ar vM a1 n1) (hA2 : gw_Ar vM a2 n2) (hw : wp_X6_lays h a1 n1 a2 n2 Q) : gw_C l yX6_lays cX6_lays 3 none 0 0 vM ad [.ref (ad a1), .ref (ad a2)] h Q := by
  refine gw_entry (own := RX6) [some (.ref (ad a1)), some (.ref (ad a2)), none] pl_X6 rfl rfl (Nat.le_of_ble_eq_true rfl) rfl (fun X => ?_)
  unfold wp_X6_lays at hw
  refine gw_iconst dX6_lays_0 ic_0 ?_
  refine gw_istore_n (ls' := [some (.ref (ad a1)), some (.ref (ad a2)), some (.int (0 : Int32))]) dX6_lays_1 rfl (Nat.le_of_ble_eq_true rfl) rfl ?_
  obtain ⟨n_4, hw⟩ := hw
  exact tl_X6_lays_2 hA1 hA2  n_4 (0 : Int32) h hw
def wp_X6_begins (h : gw_H)  (Q : Int32 → gw_H → Prop) : Prop :=
  (wp_X6_lays h (2) 73 (5) 73 (fun _ h_1 => Q 0 h_1))
set_option maxRecDepth 100000 in
set_option maxHeartbeats 4000000 in
theorem gc_X6_begins {l : Launch} {ad : Nat → Nat} {h : gw_H}  {Q : Int32 → gw_H → Prop}  (hw : wp_X6_begins h  Q) : gw_C l yX6_begins cX6_begins 1 none 1 22 vM ad [.ref (ad 0)] h Q := by
  refine gw_entry (own := RX6) [some (.ref (ad 0))] pl_X6 rfl rfl (Nat.le_of_ble_eq_true rfl) rfl (fun X => ?_)
  unfold wp_X6_begins at hw
  refine gw_aload_n dX6_begins_0 rfl rfl ?_
  refine gw_getf (k := 1) (v := .ref (ad 2)) oX6 clX6 inUX6 (Nat.le_of_ble_eq_true rfl) rfl lfX6_13 rfl dX6_begins_1 ?_
  refine gw_aload_n dX6_begins_4 rfl rfl ?_
  refine gw_getf (k := 4) (v := .ref (ad 5)) oX6 clX6 inUX6 (Nat.le_of_ble_eq_true rfl) rfl lfX6_22 rfl dX6_begins_5 ?_
  refine gw_callSv (As := [.ref (ad 2), .ref (ad 5)]) (rest := []) rfl (gc_X6_lays am_2 am_5 hw) mX6_lays lmX6_49 rfl rfl ⟨Nat.le_of_ble_eq_true rfl, Nat.le_of_ble_eq_true rfl⟩ (Nat.le_of_ble_eq_true rfl) dX6_begins_8 (fun h_1 hw => ?_)
  exact gw_return hw rfl dX6_begins_11
def wl_X6_bits_4 (p1 : Int32)  (Q : Int32 → gw_H → Prop) : Nat → Int32 → Int32 → gw_H → Prop
  | 0 => fun _ _ _ => False
  | n + 1 => fun x1 x2 h => ((x2 ≤ 0 → Q x1 h) ∧ (¬ x2 ≤ 0 → ((wl_X6_bits_4 p1  Q n) (x1 + (x2 &&& (1 : Int32))) (x2 >>> ((1 : Int32) &&& 31)) h)))
set_option maxRecDepth 100000 in
set_option maxHeartbeats 4000000 in
theorem tl_X6_bits_4 {l : Launch} {ad : Nat → Nat} {X : gw_X} {p1 : Int32}  {Q : Int32 → gw_H → Prop}   : ∀ (n : Nat) (x1 : Int32) (x2 : Int32) (h : gw_H), wl_X6_bits_4 p1  Q n x1 x2 h → gw_G l vM ad cX6_bits RX6 3 (some .int) 0 0 Q X h 4 [some (.int p1), some (.int x1), some (.int x2)] [] := by
  intro n
  induction n with
  | zero => intro x1 x2 h hw; exact hw.elim
  | succ n ih =>
    intro x1 x2 h hw
    unfold wl_X6_bits_4 at hw
    refine gw_iload_n dX6_bits_4 rfl rfl ?_
    refine gw_if_le (tgt := 21) dX6_bits_5 (by decide) (fun c_1 => ?_) (fun c_1 => ?_)
    · have hw := hw.1 c_1
      refine gw_iload_n dX6_bits_21 rfl rfl ?_
      exact gw_ireturn (ty := .int) hw rfl rfl dX6_bits_22
    · have hw := hw.2 c_1
      refine gw_iload_n dX6_bits_8 rfl rfl ?_
      refine gw_iload_n dX6_bits_9 rfl rfl ?_
      refine gw_iconst dX6_bits_10 ic_1 ?_
      refine gw_iand dX6_bits_11 ?_
      refine gw_iadd dX6_bits_12 ?_
      refine gw_istore_n (ls' := [some (.int p1), some (.int (x1 + (x2 &&& (1 : Int32)))), some (.int x2)]) dX6_bits_13 rfl (Nat.le_of_ble_eq_true rfl) rfl ?_
      refine gw_iload_n dX6_bits_14 rfl rfl ?_
      refine gw_iconst dX6_bits_15 ic_1 ?_
      refine gw_ishr dX6_bits_16 ?_
      refine gw_istore_n (ls' := [some (.int p1), some (.int (x1 + (x2 &&& (1 : Int32)))), some (.int (x2 >>> ((1 : Int32) &&& 31)))]) dX6_bits_17 rfl (Nat.le_of_ble_eq_true rfl) rfl ?_
      refine gw_goto (tgt := 4) dX6_bits_18 (by decide) ?_
      exact ih (x1 + (x2 &&& (1 : Int32))) (x2 >>> ((1 : Int32) &&& 31)) h hw
def wp_X6_bits (h : gw_H) (p1 : Int32) (Q : Int32 → gw_H → Prop) : Prop :=
  (∃ n_2 : Nat, wl_X6_bits_4 p1  Q n_2 (0 : Int32) p1 h)
set_option maxRecDepth 100000 in
set_option maxHeartbeats 4000000 in
theorem gc_X6_bits {l : Launch} {ad : Nat → Nat} {h : gw_H} {p1 : Int32} {Q : Int32 → gw_H → Prop}  (hw : wp_X6_bits h p1 Q) : gw_C l yX6_bits cX6_bits 3 (some .int) 0 0 vM ad [.int p1] h Q := by
  refine gw_entry (own := RX6) [some (.int p1), none, none] pl_X6 rfl rfl (Nat.le_of_ble_eq_true rfl) rfl (fun X => ?_)
  unfold wp_X6_bits at hw
  refine gw_iconst dX6_bits_0 ic_0 ?_
  refine gw_istore_n (ls' := [some (.int p1), some (.int (0 : Int32)), none]) dX6_bits_1 rfl (Nat.le_of_ble_eq_true rfl) rfl ?_
  refine gw_iload_n dX6_bits_2 rfl rfl ?_
  refine gw_istore_n (ls' := [some (.int p1), some (.int (0 : Int32)), some (.int p1)]) dX6_bits_3 rfl (Nat.le_of_ble_eq_true rfl) rfl ?_
  obtain ⟨n_2, hw⟩ := hw
  exact tl_X6_bits_4   n_2 (0 : Int32) p1 h hw
def wp_X6_of (h : gw_H) (p1 : Int32) (p2 : Int32) (Q : Int32 → gw_H → Prop) : Prop :=
  (vp_in (((22 : Int32) + ((3 : Int32) * p1)) + p2) 73 ∧ Q (h 2 (((22 : Int32) + ((3 : Int32) * p1)) + p2).toNatClampNeg) h)
set_option maxRecDepth 100000 in
set_option maxHeartbeats 4000000 in
theorem gc_X6_of {l : Launch} {ad : Nat → Nat} {h : gw_H} {p1 : Int32} {p2 : Int32} {Q : Int32 → gw_H → Prop}  (hw : wp_X6_of h p1 p2 Q) : gw_C l yX6_of cX6_of 3 (some .int) 0 0 vM ad [.ref (ad 0), .int p1, .int p2] h Q := by
  refine gw_entry (own := RX6) [some (.ref (ad 0)), some (.int p1), some (.int p2)] pl_X6 rfl rfl (Nat.le_of_ble_eq_true rfl) rfl (fun X => ?_)
  unfold wp_X6_of at hw
  refine gw_aload_n dX6_of_0 rfl rfl ?_
  refine gw_getf (k := 1) (v := .ref (ad 2)) oX6 clX6 inUX6 (Nat.le_of_ble_eq_true rfl) rfl lfX6_13 rfl dX6_of_1 ?_
  refine gw_bipush dX6_of_4 bp_22 ?_
  refine gw_iconst dX6_of_6 ic_3 ?_
  refine gw_iload_n dX6_of_7 rfl rfl ?_
  refine gw_imul dX6_of_8 ?_
  refine gw_iadd dX6_of_9 ?_
  refine gw_iload_n dX6_of_10 rfl rfl ?_
  refine gw_iadd dX6_of_11 ?_
  have q_1 := hw.1
  have hw := hw.2
  refine gw_iald am_2 q_1 rfl dX6_of_12 ?_
  exact gw_ireturn (ty := .int) hw rfl rfl dX6_of_13
def wp_X6_fresh (h : gw_H) (p1 : Int32) (Q : Int32 → gw_H → Prop) : Prop :=
  (wp_X6_of h p1 (1 : Int32) (fun r_2 h_1 => (wp_X6_of h_1 p1 (2 : Int32) (fun r_4 h_3 => (wp_X6_of h_3 p1 (0 : Int32) (fun r_6 h_5 => ((¬ r_6 = (2 : Int32) → ((¬ r_6 = (4 : Int32) → Q (((2 : Int32) * r_2) + r_4) h_5) ∧ (r_6 = (4 : Int32) → Q ((2 : Int32) * ((((2 : Int32) * r_2) + r_4) + (3 : Int32))) h_5))) ∧ (r_6 = (2 : Int32) → Q ((((2 : Int32) * r_2) + r_4) + (3 : Int32)) h_5))))))))
set_option maxRecDepth 100000 in
set_option maxHeartbeats 4000000 in
theorem gc_X6_fresh {l : Launch} {ad : Nat → Nat} {h : gw_H} {p1 : Int32} {Q : Int32 → gw_H → Prop}  (hw : wp_X6_fresh h p1 Q) : gw_C l yX6_fresh cX6_fresh 4 (some .int) 1 22 vM ad [.ref (ad 0), .int p1] h Q := by
  refine gw_entry (own := RX6) [some (.ref (ad 0)), some (.int p1), none, none] pl_X6 rfl rfl (Nat.le_of_ble_eq_true rfl) rfl (fun X => ?_)
  unfold wp_X6_fresh at hw
  refine gw_iconst dX6_fresh_0 ic_2 ?_
  refine gw_aload_n dX6_fresh_1 rfl rfl ?_
  refine gw_iload_n dX6_fresh_2 rfl rfl ?_
  refine gw_iconst dX6_fresh_3 ic_1 ?_
  refine gw_callVi (As := [.int p1, .int (1 : Int32)]) (rest := [.int (2 : Int32)]) rfl (gc_X6_of  hw) mX6_of lmX6_57 oX6 clX6 rfl rfl ⟨Nat.le_of_ble_eq_true rfl, Nat.le_of_ble_eq_true rfl⟩ (Nat.le_of_ble_eq_true rfl) dX6_fresh_4 (fun r_2 h_1 hw => ?_)
  refine gw_imul dX6_fresh_7 ?_
  refine gw_aload_n dX6_fresh_8 rfl rfl ?_
  refine gw_iload_n dX6_fresh_9 rfl rfl ?_
  refine gw_iconst dX6_fresh_10 ic_2 ?_
  refine gw_callVi (As := [.int p1, .int (2 : Int32)]) (rest := [.int ((2 : Int32) * r_2)]) rfl (gc_X6_of  hw) mX6_of lmX6_57 oX6 clX6 rfl rfl ⟨Nat.le_of_ble_eq_true rfl, Nat.le_of_ble_eq_true rfl⟩ (Nat.le_of_ble_eq_true rfl) dX6_fresh_11 (fun r_4 h_3 hw => ?_)
  refine gw_iadd dX6_fresh_14 ?_
  refine gw_istore_n (ls' := [some (.ref (ad 0)), some (.int p1), some (.int (((2 : Int32) * r_2) + r_4)), none]) dX6_fresh_15 rfl (Nat.le_of_ble_eq_true rfl) rfl ?_
  refine gw_aload_n dX6_fresh_16 rfl rfl ?_
  refine gw_iload_n dX6_fresh_17 rfl rfl ?_
  refine gw_iconst dX6_fresh_18 ic_0 ?_
  refine gw_callVi (As := [.int p1, .int (0 : Int32)]) (rest := []) rfl (gc_X6_of  hw) mX6_of lmX6_57 oX6 clX6 rfl rfl ⟨Nat.le_of_ble_eq_true rfl, Nat.le_of_ble_eq_true rfl⟩ (Nat.le_of_ble_eq_true rfl) dX6_fresh_19 (fun r_6 h_5 hw => ?_)
  refine gw_istore_n (ls' := [some (.ref (ad 0)), some (.int p1), some (.int (((2 : Int32) * r_2) + r_4)), some (.int r_6)]) dX6_fresh_22 rfl (Nat.le_of_ble_eq_true rfl) rfl ?_
  refine gw_iload_n dX6_fresh_23 rfl rfl ?_
  refine gw_iconst dX6_fresh_24 ic_2 ?_
  refine gw_icmp_ne (tgt := 34) dX6_fresh_25 (by decide) (fun c_7 => ?_) (fun c_7 => ?_)
  · have hw := hw.1 c_7
    refine gw_iload_n dX6_fresh_34 rfl rfl ?_
    refine gw_iconst dX6_fresh_35 ic_4 ?_
    refine gw_icmp_ne (tgt := 47) dX6_fresh_36 (by decide) (fun c_8 => ?_) (fun c_8 => ?_)
    · have hw := hw.1 c_8
      refine gw_iload_n dX6_fresh_47 rfl rfl ?_
      exact gw_ireturn (ty := .int) hw rfl rfl dX6_fresh_48
    · have hw := hw.2 c_8
      refine gw_iconst dX6_fresh_39 ic_2 ?_
      refine gw_iload_n dX6_fresh_40 rfl rfl ?_
      refine gw_iconst dX6_fresh_41 ic_3 ?_
      refine gw_iadd dX6_fresh_42 ?_
      refine gw_imul dX6_fresh_43 ?_
      refine gw_goto (tgt := 48) dX6_fresh_44 (by decide) ?_
      exact gw_ireturn (ty := .int) hw rfl rfl dX6_fresh_48
  · have hw := hw.2 c_7
    refine gw_iload_n dX6_fresh_28 rfl rfl ?_
    refine gw_iconst dX6_fresh_29 ic_3 ?_
    refine gw_iadd dX6_fresh_30 ?_
    refine gw_goto (tgt := 48) dX6_fresh_31 (by decide) ?_
    exact gw_ireturn (ty := .int) hw rfl rfl dX6_fresh_48
def wp_X6_puts (h : gw_H) (p1 : Int32) (p2 : Int32) (p3 : Int32) (Q : Int32 → gw_H → Prop) : Prop :=
  (vp_in (((37 : Int32) + ((6 : Int32) * p1)) + p2) 73 ∧ Q 0 (gw_up h 2 (((37 : Int32) + ((6 : Int32) * p1)) + p2).toNatClampNeg p3))
set_option maxRecDepth 100000 in
set_option maxHeartbeats 4000000 in
theorem gc_X6_puts {l : Launch} {ad : Nat → Nat} {h : gw_H} {p1 : Int32} {p2 : Int32} {p3 : Int32} {Q : Int32 → gw_H → Prop}  (hw : wp_X6_puts h p1 p2 p3 Q) : gw_C l yX6_puts cX6_puts 4 none 0 0 vM ad [.ref (ad 0), .int p1, .int p2, .int p3] h Q := by
  refine gw_entry (own := RX6) [some (.ref (ad 0)), some (.int p1), some (.int p2), some (.int p3)] pl_X6 rfl rfl (Nat.le_of_ble_eq_true rfl) rfl (fun X => ?_)
  unfold wp_X6_puts at hw
  refine gw_aload_n dX6_puts_0 rfl rfl ?_
  refine gw_getf (k := 1) (v := .ref (ad 2)) oX6 clX6 inUX6 (Nat.le_of_ble_eq_true rfl) rfl lfX6_13 rfl dX6_puts_1 ?_
  refine gw_bipush dX6_puts_4 bp_37 ?_
  refine gw_bipush dX6_puts_6 bp_6 ?_
  refine gw_iload_n dX6_puts_8 rfl rfl ?_
  refine gw_imul dX6_puts_9 ?_
  refine gw_iadd dX6_puts_10 ?_
  refine gw_iload_n dX6_puts_11 rfl rfl ?_
  refine gw_iadd dX6_puts_12 ?_
  refine gw_iload_n dX6_puts_13 rfl rfl ?_
  have q_1 := hw.1
  have hw := hw.2
  refine gw_iast am_2 q_1 rfl dX6_puts_14 ?_
  exact gw_return hw rfl dX6_puts_15
def wk_X6_gets_32 (p1 : Int32) (p2 : Int32)  (Q : Int32 → gw_H → Prop) : Int32 → Int32 → Int32 → gw_H → Prop :=
  fun s0 s1 s2 h => (wp_X6_puts h s2 s1 s0 (fun _ h_6 => Q 0 h_6))
set_option maxRecDepth 100000 in
set_option maxHeartbeats 4000000 in
theorem tk_X6_gets_32 {l : Launch} {ad : Nat → Nat} {X : gw_X} {p1 : Int32} {p2 : Int32}  {Q : Int32 → gw_H → Prop}   (s0 : Int32) (s1 : Int32) (s2 : Int32) (h : gw_H) (hw : wk_X6_gets_32 p1 p2  Q s0 s1 s2 h) : gw_G l vM ad cX6_gets RX6 3 none 2 45 Q X h 32 [some (.ref (ad 0)), some (.int p1), some (.int p2)] [.int s0, .int s1, .int s2, .ref (ad 0)] := by
  unfold wk_X6_gets_32 at hw
  refine gw_callVv (As := [.int s2, .int s1, .int s0]) (rest := []) rfl (gc_X6_puts  hw) mX6_puts lmX6_64 oX6 clX6 rfl rfl ⟨Nat.le_of_ble_eq_true rfl, Nat.le_of_ble_eq_true rfl⟩ (Nat.le_of_ble_eq_true rfl) dX6_gets_32 (fun h_6 hw => ?_)
  exact gw_return hw rfl dX6_gets_35
def wk_X6_gets_13 (p1 : Int32) (p2 : Int32)  (Q : Int32 → gw_H → Prop) : Int32 → Int32 → Int32 → gw_H → Prop :=
  fun s0 s1 s2 h => (wp_X6_puts h s2 s1 s0 (fun _ h_2 => ((0 ≤ p2 → (wp_X6_fresh h_2 p2 (fun r_5 h_4 => (wk_X6_gets_32 p1 p2  Q r_5 (4 : Int32) p1 h_4)))) ∧ (¬ 0 ≤ p2 → (wk_X6_gets_32 p1 p2  Q (0 : Int32) (4 : Int32) p1 h_2)))))
set_option maxRecDepth 100000 in
set_option maxHeartbeats 4000000 in
theorem tk_X6_gets_13 {l : Launch} {ad : Nat → Nat} {X : gw_X} {p1 : Int32} {p2 : Int32}  {Q : Int32 → gw_H → Prop}   (s0 : Int32) (s1 : Int32) (s2 : Int32) (h : gw_H) (hw : wk_X6_gets_13 p1 p2  Q s0 s1 s2 h) : gw_G l vM ad cX6_gets RX6 3 none 2 45 Q X h 13 [some (.ref (ad 0)), some (.int p1), some (.int p2)] [.int s0, .int s1, .int s2, .ref (ad 0)] := by
  unfold wk_X6_gets_13 at hw
  refine gw_callVv (As := [.int s2, .int s1, .int s0]) (rest := []) rfl (gc_X6_puts  hw) mX6_puts lmX6_64 oX6 clX6 rfl rfl ⟨Nat.le_of_ble_eq_true rfl, Nat.le_of_ble_eq_true rfl⟩ (Nat.le_of_ble_eq_true rfl) dX6_gets_13 (fun h_2 hw => ?_)
  refine gw_aload_n dX6_gets_16 rfl rfl ?_
  refine gw_iload_n dX6_gets_17 rfl rfl ?_
  refine gw_iconst dX6_gets_18 ic_4 ?_
  refine gw_iload_n dX6_gets_19 rfl rfl ?_
  refine gw_if_ge (tgt := 27) dX6_gets_20 (by decide) (fun c_3 => ?_) (fun c_3 => ?_)
  · have hw := hw.1 c_3
    refine gw_aload_n dX6_gets_27 rfl rfl ?_
    refine gw_iload_n dX6_gets_28 rfl rfl ?_
    refine gw_callVi (As := [.int p2]) (rest := [.int (4 : Int32), .int p1, .ref (ad 0)]) rfl (gc_X6_fresh  hw) mX6_fresh lmX6_68 oX6 clX6 rfl rfl ⟨Nat.le_of_ble_eq_true rfl, Nat.le_of_ble_eq_true rfl⟩ (Nat.le_of_ble_eq_true rfl) dX6_gets_29 (fun r_5 h_4 hw => ?_)
    exact tk_X6_gets_32   r_5 (4 : Int32) p1 h_4 hw
  · have hw := hw.2 c_3
    refine gw_iconst dX6_gets_23 ic_0 ?_
    refine gw_goto (tgt := 32) dX6_gets_24 (by decide) ?_
    exact tk_X6_gets_32   (0 : Int32) (4 : Int32) p1 h_2 hw
def wp_X6_gets (h : gw_H) (p1 : Int32) (p2 : Int32) (Q : Int32 → gw_H → Prop) : Prop :=
  ((0 ≤ p2 → (wk_X6_gets_13 p1 p2  Q p2 (3 : Int32) p1 h)) ∧ (¬ 0 ≤ p2 → (wk_X6_gets_13 p1 p2  Q (-9 : Int32) (3 : Int32) p1 h)))
set_option maxRecDepth 100000 in
set_option maxHeartbeats 4000000 in
theorem gc_X6_gets {l : Launch} {ad : Nat → Nat} {h : gw_H} {p1 : Int32} {p2 : Int32} {Q : Int32 → gw_H → Prop}  (hw : wp_X6_gets h p1 p2 Q) : gw_C l yX6_gets cX6_gets 3 none 2 45 vM ad [.ref (ad 0), .int p1, .int p2] h Q := by
  refine gw_entry (own := RX6) [some (.ref (ad 0)), some (.int p1), some (.int p2)] pl_X6 rfl rfl (Nat.le_of_ble_eq_true rfl) rfl (fun X => ?_)
  unfold wp_X6_gets at hw
  refine gw_aload_n dX6_gets_0 rfl rfl ?_
  refine gw_iload_n dX6_gets_1 rfl rfl ?_
  refine gw_iconst dX6_gets_2 ic_3 ?_
  refine gw_iload_n dX6_gets_3 rfl rfl ?_
  refine gw_if_ge (tgt := 12) dX6_gets_4 (by decide) (fun c_1 => ?_) (fun c_1 => ?_)
  · have hw := hw.1 c_1
    refine gw_iload_n dX6_gets_12 rfl rfl ?_
    exact tk_X6_gets_13   p2 (3 : Int32) p1 h hw
  · have hw := hw.2 c_1
    refine gw_bipush dX6_gets_7 bp_m9 ?_
    refine gw_goto (tgt := 13) dX6_gets_9 (by decide) ?_
    exact tk_X6_gets_13   (-9 : Int32) (3 : Int32) p1 h hw
def wp_X6_isIn (h : gw_H) (p1 : Int32) (p2 : Int32) (Q : Int32 → gw_H → Prop) : Prop :=
  ((p1 < 0 → Q (0 : Int32) h) ∧ (¬ p1 < 0 → ((p2 ≤ p1 → Q (0 : Int32) h) ∧ (¬ p2 ≤ p1 → Q (1 : Int32) h))))
set_option maxRecDepth 100000 in
set_option maxHeartbeats 4000000 in
theorem gc_X6_isIn {l : Launch} {ad : Nat → Nat} {h : gw_H} {p1 : Int32} {p2 : Int32} {Q : Int32 → gw_H → Prop}  (hw : wp_X6_isIn h p1 p2 Q) : gw_C l yX6_isIn cX6_isIn 2 (some .boolean) 0 0 vM ad [.int p1, .int p2] h Q := by
  refine gw_entry (own := RX6) [some (.int p1), some (.int p2)] pl_X6 rfl rfl (Nat.le_of_ble_eq_true rfl) rfl (fun X => ?_)
  unfold wp_X6_isIn at hw
  refine gw_iload_n dX6_isIn_0 rfl rfl ?_
  refine gw_if_lt (tgt := 13) dX6_isIn_1 (by decide) (fun c_1 => ?_) (fun c_1 => ?_)
  · have hw := hw.1 c_1
    refine gw_iconst dX6_isIn_13 ic_0 ?_
    exact gw_ireturn (ty := .boolean) hw rfl rfl dX6_isIn_14
  · have hw := hw.2 c_1
    refine gw_iload_n dX6_isIn_4 rfl rfl ?_
    refine gw_iload_n dX6_isIn_5 rfl rfl ?_
    refine gw_icmp_ge (tgt := 13) dX6_isIn_6 (by decide) (fun c_2 => ?_) (fun c_2 => ?_)
    · have hw := hw.1 c_2
      refine gw_iconst dX6_isIn_13 ic_0 ?_
      exact gw_ireturn (ty := .boolean) hw rfl rfl dX6_isIn_14
    · have hw := hw.2 c_2
      refine gw_iconst dX6_isIn_9 ic_1 ?_
      refine gw_goto (tgt := 14) dX6_isIn_10 (by decide) ?_
      exact gw_ireturn (ty := .boolean) hw rfl rfl dX6_isIn_14
def wp_X6_isHead (h : gw_H) (p1 : Int32) (Q : Int32 → gw_H → Prop) : Prop :=
  (wp_X6_isIn h p1 (h 2 3) (fun r_2 h_1 => (narrow .boolean (.int r_2) = .int r_2 ∧ Q r_2 h_1)))
set_option maxRecDepth 100000 in
set_option maxHeartbeats 4000000 in
theorem gc_X6_isHead {l : Launch} {ad : Nat → Nat} {h : gw_H} {p1 : Int32} {Q : Int32 → gw_H → Prop}  (hw : wp_X6_isHead h p1 Q) : gw_C l yX6_isHead cX6_isHead 2 (some .boolean) 1 21 vM ad [.ref (ad 0), .int p1] h Q := by
  refine gw_entry (own := RX6) [some (.ref (ad 0)), some (.int p1)] pl_X6 rfl rfl (Nat.le_of_ble_eq_true rfl) rfl (fun X => ?_)
  unfold wp_X6_isHead at hw
  refine gw_iload_n dX6_isHead_0 rfl rfl ?_
  refine gw_aload_n dX6_isHead_1 rfl rfl ?_
  refine gw_getf (k := 1) (v := .ref (ad 2)) oX6 clX6 inUX6 (Nat.le_of_ble_eq_true rfl) rfl lfX6_13 rfl dX6_isHead_2 ?_
  refine gw_iconst dX6_isHead_5 ic_3 ?_
  refine gw_iald am_2 in_3_73 cl_3 dX6_isHead_6 ?_
  refine gw_callSi (As := [.int p1, .int (h 2 3)]) (rest := []) rfl (gc_X6_isIn  hw) mX6_isIn lmX6_53 rfl rfl ⟨Nat.le_of_ble_eq_true rfl, Nat.le_of_ble_eq_true rfl⟩ (Nat.le_of_ble_eq_true rfl) dX6_isHead_7 (fun r_2 h_1 hw => ?_)
  exact gw_ireturn (ty := .boolean) hw.2 rfl hw.1 dX6_isHead_10
def wp_X6_isSong (h : gw_H) (p1 : Int32) (Q : Int32 → gw_H → Prop) : Prop :=
  (wp_X6_isIn h p1 (h 2 2) (fun r_2 h_1 => (narrow .boolean (.int r_2) = .int r_2 ∧ Q r_2 h_1)))
set_option maxRecDepth 100000 in
set_option maxHeartbeats 4000000 in
theorem gc_X6_isSong {l : Launch} {ad : Nat → Nat} {h : gw_H} {p1 : Int32} {Q : Int32 → gw_H → Prop}  (hw : wp_X6_isSong h p1 Q) : gw_C l yX6_isSong cX6_isSong 2 (some .boolean) 1 21 vM ad [.ref (ad 0), .int p1] h Q := by
  refine gw_entry (own := RX6) [some (.ref (ad 0)), some (.int p1)] pl_X6 rfl rfl (Nat.le_of_ble_eq_true rfl) rfl (fun X => ?_)
  unfold wp_X6_isSong at hw
  refine gw_iload_n dX6_isSong_0 rfl rfl ?_
  refine gw_aload_n dX6_isSong_1 rfl rfl ?_
  refine gw_getf (k := 1) (v := .ref (ad 2)) oX6 clX6 inUX6 (Nat.le_of_ble_eq_true rfl) rfl lfX6_13 rfl dX6_isSong_2 ?_
  refine gw_iconst dX6_isSong_5 ic_2 ?_
  refine gw_iald am_2 in_2_73 cl_2 dX6_isSong_6 ?_
  refine gw_callSi (As := [.int p1, .int (h 2 2)]) (rest := []) rfl (gc_X6_isIn  hw) mX6_isIn lmX6_53 rfl rfl ⟨Nat.le_of_ble_eq_true rfl, Nat.le_of_ble_eq_true rfl⟩ (Nat.le_of_ble_eq_true rfl) dX6_isSong_7 (fun r_2 h_1 hw => ?_)
  exact gw_ireturn (ty := .boolean) hw.2 rfl hw.1 dX6_isSong_10
def wl_X6_comes_245 (p1 : Int32)  (Q : Int32 → gw_H → Prop) : Nat → Int32 → gw_H → Prop
  | 0 => fun _ _ => False
  | n + 1 => fun x4 h => (((3 : Int32) ≤ x4 → (wp_X6_puts h (h 2 3) (3 : Int32) (-9 : Int32) (fun _ h_20 => (wp_X6_puts h_20 (h_20 2 3) (4 : Int32) (0 : Int32) (fun _ h_21 => (wp_X6_puts h_21 (h_21 2 3) (5 : Int32) (0 : Int32) (fun _ h_22 => Q (1 : Int32) (gw_up h_22 2 3 ((h_22 2 3) + (1 : Int32)))))))))) ∧ (¬ (3 : Int32) ≤ x4 → (vp_in x4 3 ∧ (wp_X6_puts h (h 2 3) x4 (h 12 x4.toNatClampNeg) (fun _ h_23 => ((wl_X6_comes_245 p1  Q n) (x4 + (1 : Int32)) h_23))))))
set_option maxRecDepth 100000 in
set_option maxHeartbeats 4000000 in
theorem tl_X6_comes_245 {l : Launch} {ad : Nat → Nat} {X : gw_X} {p1 : Int32}  {Q : Int32 → gw_H → Prop}   : ∀ (n : Nat) (x4 : Int32) (h : gw_H), wl_X6_comes_245 p1  Q n x4 h → gw_G l vM ad cX6_comes RX6 5 (some .boolean) 3 67 Q X h 245 [some (.ref (ad 0)), some (.int p1), none, none, some (.int x4)] [] := by
  intro n
  induction n with
  | zero => intro x4 h hw; exact hw.elim
  | succ n ih =>
    intro x4 h hw
    unfold wl_X6_comes_245 at hw
    refine gw_iload dX6_comes_245 rfl ?_
    refine gw_iconst dX6_comes_247 ic_3 ?_
    refine gw_icmp_ge (tgt := 276) dX6_comes_248 (by decide) (fun c_19 => ?_) (fun c_19 => ?_)
    · have hw := hw.1 c_19
      refine gw_aload_n dX6_comes_276 rfl rfl ?_
      refine gw_aload_n dX6_comes_277 rfl rfl ?_
      refine gw_getf (k := 1) (v := .ref (ad 2)) oX6 clX6 inUX6 (Nat.le_of_ble_eq_true rfl) rfl lfX6_13 rfl dX6_comes_278 ?_
      refine gw_iconst dX6_comes_281 ic_3 ?_
      refine gw_iald am_2 in_3_73 cl_3 dX6_comes_282 ?_
      refine gw_iconst dX6_comes_283 ic_3 ?_
      refine gw_bipush dX6_comes_284 bp_m9 ?_
      refine gw_callVv (As := [.int (h 2 3), .int (3 : Int32), .int (-9 : Int32)]) (rest := []) rfl (gc_X6_puts  hw) mX6_puts lmX6_64 oX6 clX6 rfl rfl ⟨Nat.le_of_ble_eq_true rfl, Nat.le_of_ble_eq_true rfl⟩ (Nat.le_of_ble_eq_true rfl) dX6_comes_286 (fun h_20 hw => ?_)
      refine gw_aload_n dX6_comes_289 rfl rfl ?_
      refine gw_aload_n dX6_comes_290 rfl rfl ?_
      refine gw_getf (k := 1) (v := .ref (ad 2)) oX6 clX6 inUX6 (Nat.le_of_ble_eq_true rfl) rfl lfX6_13 rfl dX6_comes_291 ?_
      refine gw_iconst dX6_comes_294 ic_3 ?_
      refine gw_iald am_2 in_3_73 cl_3 dX6_comes_295 ?_
      refine gw_iconst dX6_comes_296 ic_4 ?_
      refine gw_iconst dX6_comes_297 ic_0 ?_
      refine gw_callVv (As := [.int (h_20 2 3), .int (4 : Int32), .int (0 : Int32)]) (rest := []) rfl (gc_X6_puts  hw) mX6_puts lmX6_64 oX6 clX6 rfl rfl ⟨Nat.le_of_ble_eq_true rfl, Nat.le_of_ble_eq_true rfl⟩ (Nat.le_of_ble_eq_true rfl) dX6_comes_298 (fun h_21 hw => ?_)
      refine gw_aload_n dX6_comes_301 rfl rfl ?_
      refine gw_aload_n dX6_comes_302 rfl rfl ?_
      refine gw_getf (k := 1) (v := .ref (ad 2)) oX6 clX6 inUX6 (Nat.le_of_ble_eq_true rfl) rfl lfX6_13 rfl dX6_comes_303 ?_
      refine gw_iconst dX6_comes_306 ic_3 ?_
      refine gw_iald am_2 in_3_73 cl_3 dX6_comes_307 ?_
      refine gw_iconst dX6_comes_308 ic_5 ?_
      refine gw_iconst dX6_comes_309 ic_0 ?_
      refine gw_callVv (As := [.int (h_21 2 3), .int (5 : Int32), .int (0 : Int32)]) (rest := []) rfl (gc_X6_puts  hw) mX6_puts lmX6_64 oX6 clX6 rfl rfl ⟨Nat.le_of_ble_eq_true rfl, Nat.le_of_ble_eq_true rfl⟩ (Nat.le_of_ble_eq_true rfl) dX6_comes_310 (fun h_22 hw => ?_)
      refine gw_aload_n dX6_comes_313 rfl rfl ?_
      refine gw_getf (k := 1) (v := .ref (ad 2)) oX6 clX6 inUX6 (Nat.le_of_ble_eq_true rfl) rfl lfX6_13 rfl dX6_comes_314 ?_
      refine gw_iconst dX6_comes_317 ic_3 ?_
      refine gw_dup2 dX6_comes_318 rfl rfl ?_
      refine gw_iald am_2 in_3_73 cl_3 dX6_comes_319 ?_
      refine gw_iconst dX6_comes_320 ic_1 ?_
      refine gw_iadd dX6_comes_321 ?_
      refine gw_iast am_2 in_3_73 cl_3 dX6_comes_322 ?_
      refine gw_iconst dX6_comes_323 ic_1 ?_
      exact gw_ireturn (ty := .boolean) hw rfl rfl dX6_comes_324
    · have hw := hw.2 c_19
      refine gw_aload_n dX6_comes_251 rfl rfl ?_
      refine gw_aload_n dX6_comes_252 rfl rfl ?_
      refine gw_getf (k := 1) (v := .ref (ad 2)) oX6 clX6 inUX6 (Nat.le_of_ble_eq_true rfl) rfl lfX6_13 rfl dX6_comes_253 ?_
      refine gw_iconst dX6_comes_256 ic_3 ?_
      refine gw_iald am_2 in_3_73 cl_3 dX6_comes_257 ?_
      refine gw_iload dX6_comes_258 rfl ?_
      refine gw_aload_n dX6_comes_260 rfl rfl ?_
      refine gw_getf (k := 12) (v := .ref (ad 12)) oX6 clX6 inUX6 (Nat.le_of_ble_eq_true rfl) rfl lfX6_43 rfl dX6_comes_261 ?_
      refine gw_iload dX6_comes_264 rfl ?_
      have q_24 := hw.1
      have hw := hw.2
      refine gw_iald am_12 q_24 rfl dX6_comes_266 ?_
      refine gw_callVv (As := [.int (h 2 3), .int x4, .int (h 12 x4.toNatClampNeg)]) (rest := []) rfl (gc_X6_puts  hw) mX6_puts lmX6_64 oX6 clX6 rfl rfl ⟨Nat.le_of_ble_eq_true rfl, Nat.le_of_ble_eq_true rfl⟩ (Nat.le_of_ble_eq_true rfl) dX6_comes_267 (fun h_23 hw => ?_)
      refine gw_iinc (ls' := [some (.ref (ad 0)), some (.int p1), none, none, some (.int (x4 + (1 : Int32)))]) dX6_comes_270 rfl (congrArg (fun z => x4 + z) ic_1) (Nat.le_of_ble_eq_true rfl) rfl ?_
      refine gw_goto (tgt := 245) dX6_comes_273 (by decide) ?_
      exact ih (x4 + (1 : Int32)) h_23 hw
def wl_X6_comes_174 (p1 : Int32)  (Q : Int32 → gw_H → Prop) : Nat → Int32 → gw_H → Prop
  | 0 => fun _ _ => False
  | n + 1 => fun x4 h => (((3 : Int32) ≤ x4 → Q (1 : Int32) (gw_up h 2 2 ((h 2 2) + (1 : Int32)))) ∧ (¬ (3 : Int32) ≤ x4 → (vp_in x4 3 ∧ (vp_in (((22 : Int32) + ((3 : Int32) * (h 2 2))) + x4) 73 ∧ ((wl_X6_comes_174 p1  Q n) (x4 + (1 : Int32)) (gw_up h 2 (((22 : Int32) + ((3 : Int32) * (h 2 2))) + x4).toNatClampNeg (h 12 x4.toNatClampNeg)))))))
set_option maxRecDepth 100000 in
set_option maxHeartbeats 4000000 in
theorem tl_X6_comes_174 {l : Launch} {ad : Nat → Nat} {X : gw_X} {p1 : Int32}  {Q : Int32 → gw_H → Prop}   : ∀ (n : Nat) (x4 : Int32) (h : gw_H), wl_X6_comes_174 p1  Q n x4 h → gw_G l vM ad cX6_comes RX6 5 (some .boolean) 3 67 Q X h 174 [some (.ref (ad 0)), some (.int p1), none, none, some (.int x4)] [] := by
  intro n
  induction n with
  | zero => intro x4 h hw; exact hw.elim
  | succ n ih =>
    intro x4 h hw
    unfold wl_X6_comes_174 at hw
    refine gw_iload dX6_comes_174 rfl ?_
    refine gw_iconst dX6_comes_176 ic_3 ?_
    refine gw_icmp_ge (tgt := 212) dX6_comes_177 (by decide) (fun c_29 => ?_) (fun c_29 => ?_)
    · have hw := hw.1 c_29
      refine gw_aload_n dX6_comes_212 rfl rfl ?_
      refine gw_getf (k := 1) (v := .ref (ad 2)) oX6 clX6 inUX6 (Nat.le_of_ble_eq_true rfl) rfl lfX6_13 rfl dX6_comes_213 ?_
      refine gw_iconst dX6_comes_216 ic_2 ?_
      refine gw_dup2 dX6_comes_217 rfl rfl ?_
      refine gw_iald am_2 in_2_73 cl_2 dX6_comes_218 ?_
      refine gw_iconst dX6_comes_219 ic_1 ?_
      refine gw_iadd dX6_comes_220 ?_
      refine gw_iast am_2 in_2_73 cl_2 dX6_comes_221 ?_
      refine gw_iconst dX6_comes_222 ic_1 ?_
      exact gw_ireturn (ty := .boolean) hw rfl rfl dX6_comes_223
    · have hw := hw.2 c_29
      refine gw_aload_n dX6_comes_180 rfl rfl ?_
      refine gw_getf (k := 1) (v := .ref (ad 2)) oX6 clX6 inUX6 (Nat.le_of_ble_eq_true rfl) rfl lfX6_13 rfl dX6_comes_181 ?_
      refine gw_bipush dX6_comes_184 bp_22 ?_
      refine gw_iconst dX6_comes_186 ic_3 ?_
      refine gw_aload_n dX6_comes_187 rfl rfl ?_
      refine gw_getf (k := 1) (v := .ref (ad 2)) oX6 clX6 inUX6 (Nat.le_of_ble_eq_true rfl) rfl lfX6_13 rfl dX6_comes_188 ?_
      refine gw_iconst dX6_comes_191 ic_2 ?_
      refine gw_iald am_2 in_2_73 cl_2 dX6_comes_192 ?_
      refine gw_imul dX6_comes_193 ?_
      refine gw_iadd dX6_comes_194 ?_
      refine gw_iload dX6_comes_195 rfl ?_
      refine gw_iadd dX6_comes_197 ?_
      refine gw_aload_n dX6_comes_198 rfl rfl ?_
      refine gw_getf (k := 12) (v := .ref (ad 12)) oX6 clX6 inUX6 (Nat.le_of_ble_eq_true rfl) rfl lfX6_43 rfl dX6_comes_199 ?_
      refine gw_iload dX6_comes_202 rfl ?_
      have q_31 := hw.1
      have hw := hw.2
      refine gw_iald am_12 q_31 rfl dX6_comes_204 ?_
      have q_30 := hw.1
      have hw := hw.2
      refine gw_iast am_2 q_30 rfl dX6_comes_205 ?_
      refine gw_iinc (ls' := [some (.ref (ad 0)), some (.int p1), none, none, some (.int (x4 + (1 : Int32)))]) dX6_comes_206 rfl (congrArg (fun z => x4 + z) ic_1) (Nat.le_of_ble_eq_true rfl) rfl ?_
      refine gw_goto (tgt := 174) dX6_comes_209 (by decide) ?_
      exact ih (x4 + (1 : Int32)) (gw_up h 2 (((22 : Int32) + ((3 : Int32) * (h 2 2))) + x4).toNatClampNeg (h 12 x4.toNatClampNeg)) hw
def wp_X6_comes (h : gw_H) (p1 : Int32) (Q : Int32 → gw_H → Prop) : Prop :=
  ((p1 = (100 : Int32) → (((5 : Int32) ≤ (h 12 0) → Q (0 : Int32) h) ∧ (¬ (5 : Int32) ≤ (h 12 0) → (((5 : Int32) ≤ (h 12 1) → Q (0 : Int32) h) ∧ (¬ (5 : Int32) ≤ (h 12 1) → (((h 12 0) = (h 12 1) → Q (0 : Int32) h) ∧ (¬ (h 12 0) = (h 12 1) → ((¬ (h 2 0) = (8 : Int32) → (vp_in ((6 : Int32) + ((2 : Int32) * (h 2 0))) 73 ∧ (vp_in (((6 : Int32) + ((2 : Int32) * ((gw_up h 2 ((6 : Int32) + ((2 : Int32) * (h 2 0))).toNatClampNeg (h 12 0)) 2 0))) + (1 : Int32)) 73 ∧ Q (1 : Int32) (gw_up (gw_up (gw_up (gw_up h 2 ((6 : Int32) + ((2 : Int32) * (h 2 0))).toNatClampNeg (h 12 0)) 2 (((6 : Int32) + ((2 : Int32) * ((gw_up h 2 ((6 : Int32) + ((2 : Int32) * (h 2 0))).toNatClampNeg (h 12 0)) 2 0))) + (1 : Int32)).toNatClampNeg (h 12 1)) 2 1 (((gw_up (gw_up h 2 ((6 : Int32) + ((2 : Int32) * (h 2 0))).toNatClampNeg (h 12 0)) 2 (((6 : Int32) + ((2 : Int32) * ((gw_up h 2 ((6 : Int32) + ((2 : Int32) * (h 2 0))).toNatClampNeg (h 12 0)) 2 0))) + (1 : Int32)).toNatClampNeg (h 12 1)) 2 1) ||| ((1 : Int32) <<< (((gw_up (gw_up h 2 ((6 : Int32) + ((2 : Int32) * (h 2 0))).toNatClampNeg (h 12 0)) 2 (((6 : Int32) + ((2 : Int32) * ((gw_up h 2 ((6 : Int32) + ((2 : Int32) * (h 2 0))).toNatClampNeg (h 12 0)) 2 0))) + (1 : Int32)).toNatClampNeg (h 12 1)) 2 0) &&& 31)))) 2 0 (((gw_up (gw_up (gw_up h 2 ((6 : Int32) + ((2 : Int32) * (h 2 0))).toNatClampNeg (h 12 0)) 2 (((6 : Int32) + ((2 : Int32) * ((gw_up h 2 ((6 : Int32) + ((2 : Int32) * (h 2 0))).toNatClampNeg (h 12 0)) 2 0))) + (1 : Int32)).toNatClampNeg (h 12 1)) 2 1 (((gw_up (gw_up h 2 ((6 : Int32) + ((2 : Int32) * (h 2 0))).toNatClampNeg (h 12 0)) 2 (((6 : Int32) + ((2 : Int32) * ((gw_up h 2 ((6 : Int32) + ((2 : Int32) * (h 2 0))).toNatClampNeg (h 12 0)) 2 0))) + (1 : Int32)).toNatClampNeg (h 12 1)) 2 1) ||| ((1 : Int32) <<< (((gw_up (gw_up h 2 ((6 : Int32) + ((2 : Int32) * (h 2 0))).toNatClampNeg (h 12 0)) 2 (((6 : Int32) + ((2 : Int32) * ((gw_up h 2 ((6 : Int32) + ((2 : Int32) * (h 2 0))).toNatClampNeg (h 12 0)) 2 0))) + (1 : Int32)).toNatClampNeg (h 12 1)) 2 0) &&& 31)))) 2 0) + (1 : Int32)))))) ∧ ((h 2 0) = (8 : Int32) → Q (0 : Int32) h))))))))) ∧ (¬ p1 = (100 : Int32) → ((p1 = (103 : Int32) → (wp_X6_isHead h (h 12 0) (fun r_10 h_9 => ((r_10 = 0 → Q (0 : Int32) h_9) ∧ (¬ r_10 = 0 → (wp_X6_isSong h_9 (h 12 1) (fun r_13 h_12 => ((¬ r_13 = 0 → (wp_X6_gets h_12 (h 12 0) (h 12 1) (fun _ h_15 => Q (1 : Int32) h_15))) ∧ (r_13 = 0 → Q (0 : Int32) h_12))))))))) ∧ (¬ p1 = (103 : Int32) → ((p1 = (104 : Int32) → (((5 : Int32) ≤ (h 12 1) → Q (0 : Int32) h) ∧ (¬ (5 : Int32) ≤ (h 12 1) → ((¬ (h 2 3) = (6 : Int32) → (∃ n_25 : Nat, wl_X6_comes_245 p1  Q n_25 (0 : Int32) h)) ∧ ((h 2 3) = (6 : Int32) → Q (0 : Int32) h))))) ∧ (¬ p1 = (104 : Int32) → ((p1 = (115 : Int32) → (((h 12 2) < (1 : Int32) → Q (0 : Int32) h) ∧ (¬ (h 12 2) < (1 : Int32) → ((¬ (h 2 2) = (5 : Int32) → (∃ n_32 : Nat, wl_X6_comes_174 p1  Q n_32 (0 : Int32) h)) ∧ ((h 2 2) = (5 : Int32) → Q (0 : Int32) h))))) ∧ (¬ p1 = (115 : Int32) → (((h 12 0) < (1 : Int32) → Q (0 : Int32) h) ∧ (¬ (h 12 0) < (1 : Int32) → (((h 12 0) ≤ (20 : Int32) → Q (1 : Int32) (gw_up h 2 5 (h 12 0))) ∧ (¬ (h 12 0) ≤ (20 : Int32) → Q (0 : Int32) h))))))))))))
set_option maxRecDepth 100000 in
set_option maxHeartbeats 4000000 in
theorem gc_X6_comes {l : Launch} {ad : Nat → Nat} {h : gw_H} {p1 : Int32} {Q : Int32 → gw_H → Prop}  (hw : wp_X6_comes h p1 Q) : gw_C l yX6_comes cX6_comes 5 (some .boolean) 3 67 vM ad [.ref (ad 0), .int p1] h Q := by
  refine gw_entry (own := RX6) [some (.ref (ad 0)), some (.int p1), none, none, none] pl_X6 rfl rfl (Nat.le_of_ble_eq_true rfl) rfl (fun X => ?_)
  unfold wp_X6_comes at hw
  refine gw_aload_n dX6_comes_0 rfl rfl ?_
  refine gw_getf (k := 12) (v := .ref (ad 12)) oX6 clX6 inUX6 (Nat.le_of_ble_eq_true rfl) rfl lfX6_43 rfl dX6_comes_1 ?_
  refine gw_iconst dX6_comes_4 ic_0 ?_
  refine gw_iald am_12 in_0_3 cl_0 dX6_comes_5 ?_
  refine gw_istore_n (ls' := [some (.ref (ad 0)), some (.int p1), some (.int (h 12 0)), none, none]) dX6_comes_6 rfl (Nat.le_of_ble_eq_true rfl) rfl ?_
  refine gw_aload_n dX6_comes_7 rfl rfl ?_
  refine gw_getf (k := 12) (v := .ref (ad 12)) oX6 clX6 inUX6 (Nat.le_of_ble_eq_true rfl) rfl lfX6_43 rfl dX6_comes_8 ?_
  refine gw_iconst dX6_comes_11 ic_1 ?_
  refine gw_iald am_12 in_1_3 cl_1 dX6_comes_12 ?_
  refine gw_istore_n (ls' := [some (.ref (ad 0)), some (.int p1), some (.int (h 12 0)), some (.int (h 12 1)), none]) dX6_comes_13 rfl (Nat.le_of_ble_eq_true rfl) rfl ?_
  refine gw_iload_n dX6_comes_14 rfl rfl ?_
  by_cases c_1 : p1 = (100 : Int32)
  · have hw := hw.1 c_1
    refine gw_lsw (off := 41) (tgt := 56) dX6_comes_15 (by decide) (by rw [c_1]; decide) (by decide) ?_
    refine gw_iload_n dX6_comes_56 rfl rfl ?_
    refine gw_iconst dX6_comes_57 ic_5 ?_
    refine gw_icmp_ge (tgt := 82) dX6_comes_58 (by decide) (fun c_2 => ?_) (fun c_2 => ?_)
    · have hw := hw.1 c_2
      refine gw_iconst dX6_comes_82 ic_0 ?_
      exact gw_ireturn (ty := .boolean) hw rfl rfl dX6_comes_83
    · have hw := hw.2 c_2
      refine gw_iload_n dX6_comes_61 rfl rfl ?_
      refine gw_iconst dX6_comes_62 ic_5 ?_
      refine gw_icmp_ge (tgt := 82) dX6_comes_63 (by decide) (fun c_3 => ?_) (fun c_3 => ?_)
      · have hw := hw.1 c_3
        refine gw_iconst dX6_comes_82 ic_0 ?_
        exact gw_ireturn (ty := .boolean) hw rfl rfl dX6_comes_83
      · have hw := hw.2 c_3
        refine gw_iload_n dX6_comes_66 rfl rfl ?_
        refine gw_iload_n dX6_comes_67 rfl rfl ?_
        refine gw_icmp_eq (tgt := 82) dX6_comes_68 (by decide) (fun c_4 => ?_) (fun c_4 => ?_)
        · have hw := hw.1 c_4
          refine gw_iconst dX6_comes_82 ic_0 ?_
          exact gw_ireturn (ty := .boolean) hw rfl rfl dX6_comes_83
        · have hw := hw.2 c_4
          refine gw_aload_n dX6_comes_71 rfl rfl ?_
          refine gw_getf (k := 1) (v := .ref (ad 2)) oX6 clX6 inUX6 (Nat.le_of_ble_eq_true rfl) rfl lfX6_13 rfl dX6_comes_72 ?_
          refine gw_iconst dX6_comes_75 ic_0 ?_
          refine gw_iald am_2 in_0_73 cl_0 dX6_comes_76 ?_
          refine gw_bipush dX6_comes_77 bp_8 ?_
          refine gw_icmp_ne (tgt := 84) dX6_comes_79 (by decide) (fun c_5 => ?_) (fun c_5 => ?_)
          · have hw := hw.1 c_5
            refine gw_aload_n dX6_comes_84 rfl rfl ?_
            refine gw_getf (k := 1) (v := .ref (ad 2)) oX6 clX6 inUX6 (Nat.le_of_ble_eq_true rfl) rfl lfX6_13 rfl dX6_comes_85 ?_
            refine gw_bipush dX6_comes_88 bp_6 ?_
            refine gw_iconst dX6_comes_90 ic_2 ?_
            refine gw_aload_n dX6_comes_91 rfl rfl ?_
            refine gw_getf (k := 1) (v := .ref (ad 2)) oX6 clX6 inUX6 (Nat.le_of_ble_eq_true rfl) rfl lfX6_13 rfl dX6_comes_92 ?_
            refine gw_iconst dX6_comes_95 ic_0 ?_
            refine gw_iald am_2 in_0_73 cl_0 dX6_comes_96 ?_
            refine gw_imul dX6_comes_97 ?_
            refine gw_iadd dX6_comes_98 ?_
            refine gw_iload_n dX6_comes_99 rfl rfl ?_
            have q_7 := hw.1
            have hw := hw.2
            refine gw_iast am_2 q_7 rfl dX6_comes_100 ?_
            refine gw_aload_n dX6_comes_101 rfl rfl ?_
            refine gw_getf (k := 1) (v := .ref (ad 2)) oX6 clX6 inUX6 (Nat.le_of_ble_eq_true rfl) rfl lfX6_13 rfl dX6_comes_102 ?_
            refine gw_bipush dX6_comes_105 bp_6 ?_
            refine gw_iconst dX6_comes_107 ic_2 ?_
            refine gw_aload_n dX6_comes_108 rfl rfl ?_
            refine gw_getf (k := 1) (v := .ref (ad 2)) oX6 clX6 inUX6 (Nat.le_of_ble_eq_true rfl) rfl lfX6_13 rfl dX6_comes_109 ?_
            refine gw_iconst dX6_comes_112 ic_0 ?_
            refine gw_iald am_2 in_0_73 cl_0 dX6_comes_113 ?_
            refine gw_imul dX6_comes_114 ?_
            refine gw_iadd dX6_comes_115 ?_
            refine gw_iconst dX6_comes_116 ic_1 ?_
            refine gw_iadd dX6_comes_117 ?_
            refine gw_iload_n dX6_comes_118 rfl rfl ?_
            have q_6 := hw.1
            have hw := hw.2
            refine gw_iast am_2 q_6 rfl dX6_comes_119 ?_
            refine gw_aload_n dX6_comes_120 rfl rfl ?_
            refine gw_getf (k := 1) (v := .ref (ad 2)) oX6 clX6 inUX6 (Nat.le_of_ble_eq_true rfl) rfl lfX6_13 rfl dX6_comes_121 ?_
            refine gw_iconst dX6_comes_124 ic_1 ?_
            refine gw_dup2 dX6_comes_125 rfl rfl ?_
            refine gw_iald am_2 in_1_73 cl_1 dX6_comes_126 ?_
            refine gw_iconst dX6_comes_127 ic_1 ?_
            refine gw_aload_n dX6_comes_128 rfl rfl ?_
            refine gw_getf (k := 1) (v := .ref (ad 2)) oX6 clX6 inUX6 (Nat.le_of_ble_eq_true rfl) rfl lfX6_13 rfl dX6_comes_129 ?_
            refine gw_iconst dX6_comes_132 ic_0 ?_
            refine gw_iald am_2 in_0_73 cl_0 dX6_comes_133 ?_
            refine gw_ishl dX6_comes_134 ?_
            refine gw_ior dX6_comes_135 ?_
            refine gw_iast am_2 in_1_73 cl_1 dX6_comes_136 ?_
            refine gw_aload_n dX6_comes_137 rfl rfl ?_
            refine gw_getf (k := 1) (v := .ref (ad 2)) oX6 clX6 inUX6 (Nat.le_of_ble_eq_true rfl) rfl lfX6_13 rfl dX6_comes_138 ?_
            refine gw_iconst dX6_comes_141 ic_0 ?_
            refine gw_dup2 dX6_comes_142 rfl rfl ?_
            refine gw_iald am_2 in_0_73 cl_0 dX6_comes_143 ?_
            refine gw_iconst dX6_comes_144 ic_1 ?_
            refine gw_iadd dX6_comes_145 ?_
            refine gw_iast am_2 in_0_73 cl_0 dX6_comes_146 ?_
            refine gw_iconst dX6_comes_147 ic_1 ?_
            exact gw_ireturn (ty := .boolean) hw rfl rfl dX6_comes_148
          · have hw := hw.2 c_5
            refine gw_iconst dX6_comes_82 ic_0 ?_
            exact gw_ireturn (ty := .boolean) hw rfl rfl dX6_comes_83
  · have hw := hw.2 c_1
    by_cases c_8 : p1 = (103 : Int32)
    · have hw := hw.1 c_8
      refine gw_lsw (off := 310) (tgt := 325) dX6_comes_15 (by decide) (by rw [c_8]; decide) (by decide) ?_
      refine gw_aload_n dX6_comes_325 rfl rfl ?_
      refine gw_iload_n dX6_comes_326 rfl rfl ?_
      refine gw_callVi (As := [.int (h 12 0)]) (rest := []) rfl (gc_X6_isHead  hw) mX6_isHead lmX6_144 oX6 clX6 rfl rfl ⟨Nat.le_of_ble_eq_true rfl, Nat.le_of_ble_eq_true rfl⟩ (Nat.le_of_ble_eq_true rfl) dX6_comes_327 (fun r_10 h_9 hw => ?_)
      refine gw_if_eq (tgt := 341) dX6_comes_330 (by decide) (fun c_11 => ?_) (fun c_11 => ?_)
      · have hw := hw.1 c_11
        refine gw_iconst dX6_comes_341 ic_0 ?_
        exact gw_ireturn (ty := .boolean) hw rfl rfl dX6_comes_342
      · have hw := hw.2 c_11
        refine gw_aload_n dX6_comes_333 rfl rfl ?_
        refine gw_iload_n dX6_comes_334 rfl rfl ?_
        refine gw_callVi (As := [.int (h 12 1)]) (rest := []) rfl (gc_X6_isSong  hw) mX6_isSong lmX6_147 oX6 clX6 rfl rfl ⟨Nat.le_of_ble_eq_true rfl, Nat.le_of_ble_eq_true rfl⟩ (Nat.le_of_ble_eq_true rfl) dX6_comes_335 (fun r_13 h_12 hw => ?_)
        refine gw_if_ne (tgt := 343) dX6_comes_338 (by decide) (fun c_14 => ?_) (fun c_14 => ?_)
        · have hw := hw.1 c_14
          refine gw_aload_n dX6_comes_343 rfl rfl ?_
          refine gw_iload_n dX6_comes_344 rfl rfl ?_
          refine gw_iload_n dX6_comes_345 rfl rfl ?_
          refine gw_callVv (As := [.int (h 12 0), .int (h 12 1)]) (rest := []) rfl (gc_X6_gets  hw) mX6_gets lmX6_81 oX6 clX6 rfl rfl ⟨Nat.le_of_ble_eq_true rfl, Nat.le_of_ble_eq_true rfl⟩ (Nat.le_of_ble_eq_true rfl) dX6_comes_346 (fun h_15 hw => ?_)
          refine gw_iconst dX6_comes_349 ic_1 ?_
          exact gw_ireturn (ty := .boolean) hw rfl rfl dX6_comes_350
        · have hw := hw.2 c_14
          refine gw_iconst dX6_comes_341 ic_0 ?_
          exact gw_ireturn (ty := .boolean) hw rfl rfl dX6_comes_342
    · have hw := hw.2 c_8
      by_cases c_16 : p1 = (104 : Int32)
      · have hw := hw.1 c_16
        refine gw_lsw (off := 209) (tgt := 224) dX6_comes_15 (by decide) (by rw [c_16]; decide) (by decide) ?_
        refine gw_iload_n dX6_comes_224 rfl rfl ?_
        refine gw_iconst dX6_comes_225 ic_5 ?_
        refine gw_icmp_ge (tgt := 240) dX6_comes_226 (by decide) (fun c_17 => ?_) (fun c_17 => ?_)
        · have hw := hw.1 c_17
          refine gw_iconst dX6_comes_240 ic_0 ?_
          exact gw_ireturn (ty := .boolean) hw rfl rfl dX6_comes_241
        · have hw := hw.2 c_17
          refine gw_aload_n dX6_comes_229 rfl rfl ?_
          refine gw_getf (k := 1) (v := .ref (ad 2)) oX6 clX6 inUX6 (Nat.le_of_ble_eq_true rfl) rfl lfX6_13 rfl dX6_comes_230 ?_
          refine gw_iconst dX6_comes_233 ic_3 ?_
          refine gw_iald am_2 in_3_73 cl_3 dX6_comes_234 ?_
          refine gw_bipush dX6_comes_235 bp_6 ?_
          refine gw_icmp_ne (tgt := 242) dX6_comes_237 (by decide) (fun c_18 => ?_) (fun c_18 => ?_)
          · have hw := hw.1 c_18
            refine gw_iconst dX6_comes_242 ic_0 ?_
            refine gw_istore (ls' := [some (.ref (ad 0)), some (.int p1), some (.int (h 12 0)), some (.int (h 12 1)), some (.int (0 : Int32))]) dX6_comes_243 (Nat.le_of_ble_eq_true rfl) rfl ?_
            refine gw_forget (ls' := [some (.ref (ad 0)), some (.int p1), none, none, some (.int (0 : Int32))]) (gw_sub.s (gw_sub.s (gw_sub.n (gw_sub.n (gw_sub.s gw_sub.z))))) ?_
            obtain ⟨n_25, hw⟩ := hw
            exact tl_X6_comes_245   n_25 (0 : Int32) h hw
          · have hw := hw.2 c_18
            refine gw_iconst dX6_comes_240 ic_0 ?_
            exact gw_ireturn (ty := .boolean) hw rfl rfl dX6_comes_241
      · have hw := hw.2 c_16
        by_cases c_26 : p1 = (115 : Int32)
        · have hw := hw.1 c_26
          refine gw_lsw (off := 134) (tgt := 149) dX6_comes_15 (by decide) (by rw [c_26]; decide) (by decide) ?_
          refine gw_aload_n dX6_comes_149 rfl rfl ?_
          refine gw_getf (k := 12) (v := .ref (ad 12)) oX6 clX6 inUX6 (Nat.le_of_ble_eq_true rfl) rfl lfX6_43 rfl dX6_comes_150 ?_
          refine gw_iconst dX6_comes_153 ic_2 ?_
          refine gw_iald am_12 in_2_3 cl_2 dX6_comes_154 ?_
          refine gw_iconst dX6_comes_155 ic_1 ?_
          refine gw_icmp_lt (tgt := 169) dX6_comes_156 (by decide) (fun c_27 => ?_) (fun c_27 => ?_)
          · have hw := hw.1 c_27
            refine gw_iconst dX6_comes_169 ic_0 ?_
            exact gw_ireturn (ty := .boolean) hw rfl rfl dX6_comes_170
          · have hw := hw.2 c_27
            refine gw_aload_n dX6_comes_159 rfl rfl ?_
            refine gw_getf (k := 1) (v := .ref (ad 2)) oX6 clX6 inUX6 (Nat.le_of_ble_eq_true rfl) rfl lfX6_13 rfl dX6_comes_160 ?_
            refine gw_iconst dX6_comes_163 ic_2 ?_
            refine gw_iald am_2 in_2_73 cl_2 dX6_comes_164 ?_
            refine gw_iconst dX6_comes_165 ic_5 ?_
            refine gw_icmp_ne (tgt := 171) dX6_comes_166 (by decide) (fun c_28 => ?_) (fun c_28 => ?_)
            · have hw := hw.1 c_28
              refine gw_iconst dX6_comes_171 ic_0 ?_
              refine gw_istore (ls' := [some (.ref (ad 0)), some (.int p1), some (.int (h 12 0)), some (.int (h 12 1)), some (.int (0 : Int32))]) dX6_comes_172 (Nat.le_of_ble_eq_true rfl) rfl ?_
              refine gw_forget (ls' := [some (.ref (ad 0)), some (.int p1), none, none, some (.int (0 : Int32))]) (gw_sub.s (gw_sub.s (gw_sub.n (gw_sub.n (gw_sub.s gw_sub.z))))) ?_
              obtain ⟨n_32, hw⟩ := hw
              exact tl_X6_comes_174   n_32 (0 : Int32) h hw
            · have hw := hw.2 c_28
              refine gw_iconst dX6_comes_169 ic_0 ?_
              exact gw_ireturn (ty := .boolean) hw rfl rfl dX6_comes_170
        · have hw := hw.2 c_26
          refine gw_lsw (off := 336) (tgt := 351) dX6_comes_15 (by decide) ((lv_osw c_1 (by decide)).trans ((lv_osw c_8 (by decide)).trans ((lv_osw c_16 (by decide)).trans ((lv_osw c_26 (by decide)).trans rfl)))) (by decide) ?_
          refine gw_iload_n dX6_comes_351 rfl rfl ?_
          refine gw_iconst dX6_comes_352 ic_1 ?_
          refine gw_icmp_lt (tgt := 362) dX6_comes_353 (by decide) (fun c_33 => ?_) (fun c_33 => ?_)
          · have hw := hw.1 c_33
            refine gw_iconst dX6_comes_362 ic_0 ?_
            exact gw_ireturn (ty := .boolean) hw rfl rfl dX6_comes_363
          · have hw := hw.2 c_33
            refine gw_iload_n dX6_comes_356 rfl rfl ?_
            refine gw_bipush dX6_comes_357 bp_20 ?_
            refine gw_icmp_le (tgt := 364) dX6_comes_359 (by decide) (fun c_34 => ?_) (fun c_34 => ?_)
            · have hw := hw.1 c_34
              refine gw_aload_n dX6_comes_364 rfl rfl ?_
              refine gw_getf (k := 1) (v := .ref (ad 2)) oX6 clX6 inUX6 (Nat.le_of_ble_eq_true rfl) rfl lfX6_13 rfl dX6_comes_365 ?_
              refine gw_iconst dX6_comes_368 ic_5 ?_
              refine gw_iload_n dX6_comes_369 rfl rfl ?_
              refine gw_iast am_2 in_5_73 cl_5 dX6_comes_370 ?_
              refine gw_iconst dX6_comes_371 ic_1 ?_
              exact gw_ireturn (ty := .boolean) hw rfl rfl dX6_comes_372
            · have hw := hw.2 c_34
              refine gw_iconst dX6_comes_362 ic_0 ?_
              exact gw_ireturn (ty := .boolean) hw rfl rfl dX6_comes_363
def wk_X6_haveIt_51 (p1 : Int32) (K4 : Int32 → Int32 → gw_H → Prop) (Q : Int32 → gw_H → Prop) : Int32 → Int32 → Int32 → gw_H → Prop :=
  fun x3 s0 s1 h => (K4 (s1 + s0) (x3 + (1 : Int32)) h)
set_option maxRecDepth 100000 in
set_option maxHeartbeats 4000000 in
theorem tk_X6_haveIt_51 {l : Launch} {ad : Nat → Nat} {X : gw_X} {p1 : Int32} {K4 : Int32 → Int32 → gw_H → Prop} {Q : Int32 → gw_H → Prop}  (hK4 : ∀ (y2 : Int32) (y3 : Int32) (h : gw_H), K4 y2 y3 h → gw_G l vM ad cX6_haveIt RX6 4 (some .int) 1 22 Q X h 4 [some (.ref (ad 0)), some (.int p1), some (.int y2), some (.int y3)] []) (x3 : Int32) (s0 : Int32) (s1 : Int32) (h : gw_H) (hw : wk_X6_haveIt_51 p1 K4 Q x3 s0 s1 h) : gw_G l vM ad cX6_haveIt RX6 4 (some .int) 1 22 Q X h 51 [some (.ref (ad 0)), some (.int p1), none, some (.int x3)] [.int s0, .int s1] := by
  unfold wk_X6_haveIt_51 at hw
  refine gw_iadd dX6_haveIt_51 ?_
  refine gw_istore_n (ls' := [some (.ref (ad 0)), some (.int p1), some (.int (s1 + s0)), some (.int x3)]) dX6_haveIt_52 rfl (Nat.le_of_ble_eq_true rfl) rfl ?_
  refine gw_iinc (ls' := [some (.ref (ad 0)), some (.int p1), some (.int (s1 + s0)), some (.int (x3 + (1 : Int32)))]) dX6_haveIt_53 rfl (congrArg (fun z => x3 + z) ic_1) (Nat.le_of_ble_eq_true rfl) rfl ?_
  refine gw_goto (tgt := 4) dX6_haveIt_56 (by decide) ?_
  exact hK4 (s1 + s0) (x3 + (1 : Int32)) h hw
def wl_X6_haveIt_4 (p1 : Int32)  (Q : Int32 → gw_H → Prop) : Nat → Int32 → Int32 → gw_H → Prop
  | 0 => fun _ _ _ => False
  | n + 1 => fun x2 x3 h => (((h 2 3) ≤ x3 → Q x2 h) ∧ (¬ (h 2 3) ≤ x3 → ((0 ≤ p1 → (wp_X6_at h x3 (3 : Int32) (fun r_4 h_3 => ((¬ r_4 = p1 → (wk_X6_haveIt_51 p1 (wl_X6_haveIt_4 p1  Q n) Q x3 (0 : Int32) x2 h_3)) ∧ (r_4 = p1 → (wk_X6_haveIt_51 p1 (wl_X6_haveIt_4 p1  Q n) Q x3 (1 : Int32) x2 h_3)))))) ∧ (¬ 0 ≤ p1 → (wp_X6_at h x3 (3 : Int32) (fun r_7 h_6 => ((r_7 < 0 → (wk_X6_haveIt_51 p1 (wl_X6_haveIt_4 p1  Q n) Q x3 (0 : Int32) x2 h_6)) ∧ (¬ r_7 < 0 → (wk_X6_haveIt_51 p1 (wl_X6_haveIt_4 p1  Q n) Q x3 (1 : Int32) x2 h_6)))))))))
set_option maxRecDepth 100000 in
set_option maxHeartbeats 4000000 in
theorem tl_X6_haveIt_4 {l : Launch} {ad : Nat → Nat} {X : gw_X} {p1 : Int32}  {Q : Int32 → gw_H → Prop}   : ∀ (n : Nat) (x2 : Int32) (x3 : Int32) (h : gw_H), wl_X6_haveIt_4 p1  Q n x2 x3 h → gw_G l vM ad cX6_haveIt RX6 4 (some .int) 1 22 Q X h 4 [some (.ref (ad 0)), some (.int p1), some (.int x2), some (.int x3)] [] := by
  intro n
  induction n with
  | zero => intro x2 x3 h hw; exact hw.elim
  | succ n ih =>
    intro x2 x3 h hw
    unfold wl_X6_haveIt_4 at hw
    refine gw_iload_n dX6_haveIt_4 rfl rfl ?_
    refine gw_aload_n dX6_haveIt_5 rfl rfl ?_
    refine gw_getf (k := 1) (v := .ref (ad 2)) oX6 clX6 inUX6 (Nat.le_of_ble_eq_true rfl) rfl lfX6_13 rfl dX6_haveIt_6 ?_
    refine gw_iconst dX6_haveIt_9 ic_3 ?_
    refine gw_iald am_2 in_3_73 cl_3 dX6_haveIt_10 ?_
    refine gw_icmp_ge (tgt := 59) dX6_haveIt_11 (by decide) (fun c_1 => ?_) (fun c_1 => ?_)
    · have hw := hw.1 c_1
      refine gw_iload_n dX6_haveIt_59 rfl rfl ?_
      exact gw_ireturn (ty := .int) hw rfl rfl dX6_haveIt_60
    · have hw := hw.2 c_1
      refine gw_iload_n dX6_haveIt_14 rfl rfl ?_
      refine gw_iload_n dX6_haveIt_15 rfl rfl ?_
      refine gw_if_ge (tgt := 36) dX6_haveIt_16 (by decide) (fun c_2 => ?_) (fun c_2 => ?_)
      · have hw := hw.1 c_2
        refine gw_aload_n dX6_haveIt_36 rfl rfl ?_
        refine gw_iload_n dX6_haveIt_37 rfl rfl ?_
        refine gw_iconst dX6_haveIt_38 ic_3 ?_
        refine gw_callVi (As := [.int x3, .int (3 : Int32)]) (rest := [.int x2]) rfl (gc_X6_at  hw) mX6_at lmX6_61 oX6 clX6 rfl rfl ⟨Nat.le_of_ble_eq_true rfl, Nat.le_of_ble_eq_true rfl⟩ (Nat.le_of_ble_eq_true rfl) dX6_haveIt_39 (fun r_4 h_3 hw => ?_)
        refine gw_iload_n dX6_haveIt_42 rfl rfl ?_
        refine gw_icmp_ne (tgt := 50) dX6_haveIt_43 (by decide) (fun c_5 => ?_) (fun c_5 => ?_)
        · have hw := hw.1 c_5
          refine gw_iconst dX6_haveIt_50 ic_0 ?_
          refine gw_forget (ls' := [some (.ref (ad 0)), some (.int p1), none, some (.int x3)]) (gw_sub.s (gw_sub.s (gw_sub.n (gw_sub.s gw_sub.z)))) ?_
          exact tk_X6_haveIt_51   ih x3 (0 : Int32) x2 h_3 hw
        · have hw := hw.2 c_5
          refine gw_iconst dX6_haveIt_46 ic_1 ?_
          refine gw_goto (tgt := 51) dX6_haveIt_47 (by decide) ?_
          refine gw_forget (ls' := [some (.ref (ad 0)), some (.int p1), none, some (.int x3)]) (gw_sub.s (gw_sub.s (gw_sub.n (gw_sub.s gw_sub.z)))) ?_
          exact tk_X6_haveIt_51   ih x3 (1 : Int32) x2 h_3 hw
      · have hw := hw.2 c_2
        refine gw_aload_n dX6_haveIt_19 rfl rfl ?_
        refine gw_iload_n dX6_haveIt_20 rfl rfl ?_
        refine gw_iconst dX6_haveIt_21 ic_3 ?_
        refine gw_callVi (As := [.int x3, .int (3 : Int32)]) (rest := [.int x2]) rfl (gc_X6_at  hw) mX6_at lmX6_61 oX6 clX6 rfl rfl ⟨Nat.le_of_ble_eq_true rfl, Nat.le_of_ble_eq_true rfl⟩ (Nat.le_of_ble_eq_true rfl) dX6_haveIt_22 (fun r_7 h_6 hw => ?_)
        refine gw_if_lt (tgt := 32) dX6_haveIt_25 (by decide) (fun c_8 => ?_) (fun c_8 => ?_)
        · have hw := hw.1 c_8
          refine gw_iconst dX6_haveIt_32 ic_0 ?_
          refine gw_goto (tgt := 51) dX6_haveIt_33 (by decide) ?_
          refine gw_forget (ls' := [some (.ref (ad 0)), some (.int p1), none, some (.int x3)]) (gw_sub.s (gw_sub.s (gw_sub.n (gw_sub.s gw_sub.z)))) ?_
          exact tk_X6_haveIt_51   ih x3 (0 : Int32) x2 h_6 hw
        · have hw := hw.2 c_8
          refine gw_iconst dX6_haveIt_28 ic_1 ?_
          refine gw_goto (tgt := 51) dX6_haveIt_29 (by decide) ?_
          refine gw_forget (ls' := [some (.ref (ad 0)), some (.int p1), none, some (.int x3)]) (gw_sub.s (gw_sub.s (gw_sub.n (gw_sub.s gw_sub.z)))) ?_
          exact tk_X6_haveIt_51   ih x3 (1 : Int32) x2 h_6 hw
def wp_X6_haveIt (h : gw_H) (p1 : Int32) (Q : Int32 → gw_H → Prop) : Prop :=
  (∃ n_9 : Nat, wl_X6_haveIt_4 p1  Q n_9 (0 : Int32) (0 : Int32) h)
set_option maxRecDepth 100000 in
set_option maxHeartbeats 4000000 in
theorem gc_X6_haveIt {l : Launch} {ad : Nat → Nat} {h : gw_H} {p1 : Int32} {Q : Int32 → gw_H → Prop}  (hw : wp_X6_haveIt h p1 Q) : gw_C l yX6_haveIt cX6_haveIt 4 (some .int) 1 22 vM ad [.ref (ad 0), .int p1] h Q := by
  refine gw_entry (own := RX6) [some (.ref (ad 0)), some (.int p1), none, none] pl_X6 rfl rfl (Nat.le_of_ble_eq_true rfl) rfl (fun X => ?_)
  unfold wp_X6_haveIt at hw
  refine gw_iconst dX6_haveIt_0 ic_0 ?_
  refine gw_istore_n (ls' := [some (.ref (ad 0)), some (.int p1), some (.int (0 : Int32)), none]) dX6_haveIt_1 rfl (Nat.le_of_ble_eq_true rfl) rfl ?_
  refine gw_iconst dX6_haveIt_2 ic_0 ?_
  refine gw_istore_n (ls' := [some (.ref (ad 0)), some (.int p1), some (.int (0 : Int32)), some (.int (0 : Int32))]) dX6_haveIt_3 rfl (Nat.le_of_ble_eq_true rfl) rfl ?_
  obtain ⟨n_9, hw⟩ := hw
  exact tl_X6_haveIt_4   n_9 (0 : Int32) (0 : Int32) h hw
def wl_X6_count_126 (p1 : Int32)  (Q : Int32 → gw_H → Prop) : Nat → Int32 → Int32 → gw_H → Prop
  | 0 => fun _ _ _ => False
  | n + 1 => fun x2 x3 h => (((h 2 3) ≤ x3 → Q x2 h) ∧ (¬ (h 2 3) ≤ x3 → (wp_X6_at h x3 (4 : Int32) (fun r_18 h_17 => ((wl_X6_count_126 p1  Q n) (x2 + r_18) (x3 + (1 : Int32)) h_17)))))
set_option maxRecDepth 100000 in
set_option maxHeartbeats 4000000 in
theorem tl_X6_count_126 {l : Launch} {ad : Nat → Nat} {X : gw_X} {p1 : Int32}  {Q : Int32 → gw_H → Prop}   : ∀ (n : Nat) (x2 : Int32) (x3 : Int32) (h : gw_H), wl_X6_count_126 p1  Q n x2 x3 h → gw_G l vM ad cX6_count RX6 4 (some .int) 2 45 Q X h 126 [some (.ref (ad 0)), some (.int p1), some (.int x2), some (.int x3)] [] := by
  intro n
  induction n with
  | zero => intro x2 x3 h hw; exact hw.elim
  | succ n ih =>
    intro x2 x3 h hw
    unfold wl_X6_count_126 at hw
    refine gw_iload_n dX6_count_126 rfl rfl ?_
    refine gw_aload_n dX6_count_127 rfl rfl ?_
    refine gw_getf (k := 1) (v := .ref (ad 2)) oX6 clX6 inUX6 (Nat.le_of_ble_eq_true rfl) rfl lfX6_13 rfl dX6_count_128 ?_
    refine gw_iconst dX6_count_131 ic_3 ?_
    refine gw_iald am_2 in_3_73 cl_3 dX6_count_132 ?_
    refine gw_icmp_ge (tgt := 151) dX6_count_133 (by decide) (fun c_16 => ?_) (fun c_16 => ?_)
    · have hw := hw.1 c_16
      refine gw_iload_n dX6_count_151 rfl rfl ?_
      exact gw_ireturn (ty := .int) hw rfl rfl dX6_count_152
    · have hw := hw.2 c_16
      refine gw_iload_n dX6_count_136 rfl rfl ?_
      refine gw_aload_n dX6_count_137 rfl rfl ?_
      refine gw_iload_n dX6_count_138 rfl rfl ?_
      refine gw_iconst dX6_count_139 ic_4 ?_
      refine gw_callVi (As := [.int x3, .int (4 : Int32)]) (rest := [.int x2]) rfl (gc_X6_at  hw) mX6_at lmX6_61 oX6 clX6 rfl rfl ⟨Nat.le_of_ble_eq_true rfl, Nat.le_of_ble_eq_true rfl⟩ (Nat.le_of_ble_eq_true rfl) dX6_count_140 (fun r_18 h_17 hw => ?_)
      refine gw_iadd dX6_count_143 ?_
      refine gw_istore_n (ls' := [some (.ref (ad 0)), some (.int p1), some (.int (x2 + r_18)), some (.int x3)]) dX6_count_144 rfl (Nat.le_of_ble_eq_true rfl) rfl ?_
      refine gw_iinc (ls' := [some (.ref (ad 0)), some (.int p1), some (.int (x2 + r_18)), some (.int (x3 + (1 : Int32)))]) dX6_count_145 rfl (congrArg (fun z => x3 + z) ic_1) (Nat.le_of_ble_eq_true rfl) rfl ?_
      refine gw_goto (tgt := 126) dX6_count_148 (by decide) ?_
      exact ih (x2 + r_18) (x3 + (1 : Int32)) h_17 hw
def wk_X6_count_22 (p1 : Int32)  (Q : Int32 → gw_H → Prop) : gw_H → Prop :=
  fun h => ((p1 = (0 : Int32) → Q (h 2 3) h) ∧ (¬ p1 = (0 : Int32) → ((p1 = (1 : Int32) → Q (h 2 2) h) ∧ (¬ p1 = (1 : Int32) → ((p1 = (2 : Int32) → Q (h 2 0) h) ∧ (¬ p1 = (2 : Int32) → ((p1 = (3 : Int32) → (wp_X6_bits h (h 2 1) (fun r_7 h_6 => Q r_7 h_6))) ∧ (¬ p1 = (3 : Int32) → ((p1 = (4 : Int32) → (vp_in p1 73 ∧ Q (h 2 p1.toNatClampNeg) h)) ∧ (¬ p1 = (4 : Int32) → ((p1 = (5 : Int32) → (vp_in p1 73 ∧ Q (h 2 p1.toNatClampNeg) h)) ∧ (¬ p1 = (5 : Int32) → ((p1 = (6 : Int32) → (wp_X6_haveIt h (-1 : Int32) (fun r_14 h_13 => Q r_14 h_13))) ∧ (¬ p1 = (6 : Int32) → ((p1 = (7 : Int32) → (∃ n_19 : Nat, wl_X6_count_126 p1  Q n_19 (0 : Int32) (0 : Int32) h)) ∧ (¬ p1 = (7 : Int32) → ((p1 = (8 : Int32) → Q (h 0 16) h) ∧ (¬ p1 = (8 : Int32) → ((p1 = (9 : Int32) → Q (h 0 13) h) ∧ (¬ p1 = (9 : Int32) → Q (-9 : Int32) h))))))))))))))))))))
set_option maxRecDepth 100000 in
set_option maxHeartbeats 4000000 in
theorem tk_X6_count_22 {l : Launch} {ad : Nat → Nat} {X : gw_X} {p1 : Int32}  {Q : Int32 → gw_H → Prop}    (h : gw_H) (hw : wk_X6_count_22 p1  Q h) : gw_G l vM ad cX6_count RX6 4 (some .int) 2 45 Q X h 22 [some (.ref (ad 0)), some (.int p1), none, none] [] := by
  unfold wk_X6_count_22 at hw
  refine gw_iconst dX6_count_22 ic_0 ?_
  refine gw_istore_n (ls' := [some (.ref (ad 0)), some (.int p1), some (.int (0 : Int32)), none]) dX6_count_23 rfl (Nat.le_of_ble_eq_true rfl) rfl ?_
  refine gw_iload_n dX6_count_24 rfl rfl ?_
  by_cases c_2 : p1 = (0 : Int32)
  · have hw := hw.1 c_2
    refine gw_tin (k := (0 : Int32)) (off := 55) (tgt := 80) dX6_count_25 c_2 (by decide) (by decide) (by decide) (by decide) ?_
    refine gw_aload_n dX6_count_80 rfl rfl ?_
    refine gw_getf (k := 1) (v := .ref (ad 2)) oX6 clX6 inUX6 (Nat.le_of_ble_eq_true rfl) rfl lfX6_13 rfl dX6_count_81 ?_
    refine gw_iconst dX6_count_84 ic_3 ?_
    refine gw_iald am_2 in_3_73 cl_3 dX6_count_85 ?_
    exact gw_ireturn (ty := .int) hw rfl rfl dX6_count_86
  · have hw := hw.2 c_2
    by_cases c_3 : p1 = (1 : Int32)
    · have hw := hw.1 c_3
      refine gw_tin (k := (1 : Int32)) (off := 62) (tgt := 87) dX6_count_25 c_3 (by decide) (by decide) (by decide) (by decide) ?_
      refine gw_aload_n dX6_count_87 rfl rfl ?_
      refine gw_getf (k := 1) (v := .ref (ad 2)) oX6 clX6 inUX6 (Nat.le_of_ble_eq_true rfl) rfl lfX6_13 rfl dX6_count_88 ?_
      refine gw_iconst dX6_count_91 ic_2 ?_
      refine gw_iald am_2 in_2_73 cl_2 dX6_count_92 ?_
      exact gw_ireturn (ty := .int) hw rfl rfl dX6_count_93
    · have hw := hw.2 c_3
      by_cases c_4 : p1 = (2 : Int32)
      · have hw := hw.1 c_4
        refine gw_tin (k := (2 : Int32)) (off := 69) (tgt := 94) dX6_count_25 c_4 (by decide) (by decide) (by decide) (by decide) ?_
        refine gw_aload_n dX6_count_94 rfl rfl ?_
        refine gw_getf (k := 1) (v := .ref (ad 2)) oX6 clX6 inUX6 (Nat.le_of_ble_eq_true rfl) rfl lfX6_13 rfl dX6_count_95 ?_
        refine gw_iconst dX6_count_98 ic_0 ?_
        refine gw_iald am_2 in_0_73 cl_0 dX6_count_99 ?_
        exact gw_ireturn (ty := .int) hw rfl rfl dX6_count_100
      · have hw := hw.2 c_4
        by_cases c_5 : p1 = (3 : Int32)
        · have hw := hw.1 c_5
          refine gw_tin (k := (3 : Int32)) (off := 76) (tgt := 101) dX6_count_25 c_5 (by decide) (by decide) (by decide) (by decide) ?_
          refine gw_aload_n dX6_count_101 rfl rfl ?_
          refine gw_getf (k := 1) (v := .ref (ad 2)) oX6 clX6 inUX6 (Nat.le_of_ble_eq_true rfl) rfl lfX6_13 rfl dX6_count_102 ?_
          refine gw_iconst dX6_count_105 ic_1 ?_
          refine gw_iald am_2 in_1_73 cl_1 dX6_count_106 ?_
          refine gw_callSi (As := [.int (h 2 1)]) (rest := []) rfl (gc_X6_bits  hw) mX6_bits lmX6_196 rfl rfl ⟨Nat.le_of_ble_eq_true rfl, Nat.le_of_ble_eq_true rfl⟩ (Nat.le_of_ble_eq_true rfl) dX6_count_107 (fun r_7 h_6 hw => ?_)
          exact gw_ireturn (ty := .int) hw rfl rfl dX6_count_110
        · have hw := hw.2 c_5
          by_cases c_8 : p1 = (4 : Int32)
          · have hw := hw.1 c_8
            refine gw_tin (k := (4 : Int32)) (off := 86) (tgt := 111) dX6_count_25 c_8 (by decide) (by decide) (by decide) (by decide) ?_
            refine gw_aload_n dX6_count_111 rfl rfl ?_
            refine gw_getf (k := 1) (v := .ref (ad 2)) oX6 clX6 inUX6 (Nat.le_of_ble_eq_true rfl) rfl lfX6_13 rfl dX6_count_112 ?_
            refine gw_iload_n dX6_count_115 rfl rfl ?_
            have q_9 := hw.1
            have hw := hw.2
            refine gw_iald am_2 q_9 rfl dX6_count_116 ?_
            exact gw_ireturn (ty := .int) hw rfl rfl dX6_count_117
          · have hw := hw.2 c_8
            by_cases c_10 : p1 = (5 : Int32)
            · have hw := hw.1 c_10
              refine gw_tin (k := (5 : Int32)) (off := 86) (tgt := 111) dX6_count_25 c_10 (by decide) (by decide) (by decide) (by decide) ?_
              refine gw_aload_n dX6_count_111 rfl rfl ?_
              refine gw_getf (k := 1) (v := .ref (ad 2)) oX6 clX6 inUX6 (Nat.le_of_ble_eq_true rfl) rfl lfX6_13 rfl dX6_count_112 ?_
              refine gw_iload_n dX6_count_115 rfl rfl ?_
              have q_11 := hw.1
              have hw := hw.2
              refine gw_iald am_2 q_11 rfl dX6_count_116 ?_
              exact gw_ireturn (ty := .int) hw rfl rfl dX6_count_117
            · have hw := hw.2 c_10
              by_cases c_12 : p1 = (6 : Int32)
              · have hw := hw.1 c_12
                refine gw_tin (k := (6 : Int32)) (off := 93) (tgt := 118) dX6_count_25 c_12 (by decide) (by decide) (by decide) (by decide) ?_
                refine gw_aload_n dX6_count_118 rfl rfl ?_
                refine gw_iconst dX6_count_119 ic_m1 ?_
                refine gw_callVi (As := [.int (-1 : Int32)]) (rest := []) rfl (gc_X6_haveIt  hw) mX6_haveIt lmX6_106 oX6 clX6 rfl rfl ⟨Nat.le_of_ble_eq_true rfl, Nat.le_of_ble_eq_true rfl⟩ (Nat.le_of_ble_eq_true rfl) dX6_count_120 (fun r_14 h_13 hw => ?_)
                exact gw_ireturn (ty := .int) hw rfl rfl dX6_count_123
              · have hw := hw.2 c_12
                by_cases c_15 : p1 = (7 : Int32)
                · have hw := hw.1 c_15
                  refine gw_tin (k := (7 : Int32)) (off := 99) (tgt := 124) dX6_count_25 c_15 (by decide) (by decide) (by decide) (by decide) ?_
                  refine gw_iconst dX6_count_124 ic_0 ?_
                  refine gw_istore_n (ls' := [some (.ref (ad 0)), some (.int p1), some (.int (0 : Int32)), some (.int (0 : Int32))]) dX6_count_125 rfl (Nat.le_of_ble_eq_true rfl) rfl ?_
                  obtain ⟨n_19, hw⟩ := hw
                  exact tl_X6_count_126   n_19 (0 : Int32) (0 : Int32) h hw
                · have hw := hw.2 c_15
                  by_cases c_20 : p1 = (8 : Int32)
                  · have hw := hw.1 c_20
                    refine gw_tin (k := (8 : Int32)) (off := 128) (tgt := 153) dX6_count_25 c_20 (by decide) (by decide) (by decide) (by decide) ?_
                    refine gw_aload_n dX6_count_153 rfl rfl ?_
                    refine gw_getf (k := 16) (v := .int (h 0 16)) oX6 clX6 inUX6 (Nat.le_of_ble_eq_true rfl) rfl lfX6_180 rfl dX6_count_154 ?_
                    exact gw_ireturn (ty := .int) hw rfl rfl dX6_count_157
                  · have hw := hw.2 c_20
                    by_cases c_21 : p1 = (9 : Int32)
                    · have hw := hw.1 c_21
                      refine gw_tin (k := (9 : Int32)) (off := 133) (tgt := 158) dX6_count_25 c_21 (by decide) (by decide) (by decide) (by decide) ?_
                      refine gw_aload_n dX6_count_158 rfl rfl ?_
                      refine gw_getf (k := 13) (v := .int (h 0 13)) oX6 clX6 inUX6 (Nat.le_of_ble_eq_true rfl) rfl lfX6_116 rfl dX6_count_159 ?_
                      exact gw_ireturn (ty := .int) hw rfl rfl dX6_count_162
                    · have hw := hw.2 c_21
                      refine gw_tout (tgt := 163) dX6_count_25 (by have q0 := lv_neT c_2 (a := 0) (by decide); have q1 := lv_neT c_3 (a := 1) (by decide); have q2 := lv_neT c_4 (a := 2) (by decide); have q3 := lv_neT c_5 (a := 3) (by decide); have q4 := lv_neT c_8 (a := 4) (by decide); have q5 := lv_neT c_10 (a := 5) (by decide); have q6 := lv_neT c_12 (a := 6) (by decide); have q7 := lv_neT c_15 (a := 7) (by decide); have q8 := lv_neT c_20 (a := 8) (by decide); have q9 := lv_neT c_21 (a := 9) (by decide); omega) (by decide) ?_
                      refine gw_bipush dX6_count_163 bp_m9 ?_
                      exact gw_ireturn (ty := .int) hw rfl rfl dX6_count_165
def wp_X6_count (h : gw_H) (p1 : Int32) (Q : Int32 → gw_H → Prop) : Prop :=
  ((p1 ≤ (10 : Int32) → (wk_X6_count_22 p1  Q h)) ∧ (¬ p1 ≤ (10 : Int32) → (((17 : Int32) ≤ p1 → (wk_X6_count_22 p1  Q h)) ∧ (¬ (17 : Int32) ≤ p1 → (vp_in (p1 - (10 : Int32)) 7 ∧ Q (h 1 (p1 - (10 : Int32)).toNatClampNeg) h)))))
set_option maxRecDepth 100000 in
set_option maxHeartbeats 4000000 in
theorem gc_X6_count {l : Launch} {ad : Nat → Nat} {h : gw_H} {p1 : Int32} {Q : Int32 → gw_H → Prop}  (hw : wp_X6_count h p1 Q) : gw_C l yX6_count cX6_count 4 (some .int) 2 45 vM ad [.ref (ad 0), .int p1] h Q := by
  refine gw_entry (own := RX6) [some (.ref (ad 0)), some (.int p1), none, none] pl_X6 rfl rfl (Nat.le_of_ble_eq_true rfl) rfl (fun X => ?_)
  unfold wp_X6_count at hw
  refine gw_iload_n dX6_count_0 rfl rfl ?_
  refine gw_bipush dX6_count_1 bp_10 ?_
  refine gw_icmp_le (tgt := 22) dX6_count_3 (by decide) (fun c_1 => ?_) (fun c_1 => ?_)
  · have hw := hw.1 c_1
    exact tk_X6_count_22   h hw
  · have hw := hw.2 c_1
    refine gw_iload_n dX6_count_6 rfl rfl ?_
    refine gw_bipush dX6_count_7 bp_17 ?_
    refine gw_icmp_ge (tgt := 22) dX6_count_9 (by decide) (fun c_22 => ?_) (fun c_22 => ?_)
    · have hw := hw.1 c_22
      exact tk_X6_count_22   h hw
    · have hw := hw.2 c_22
      refine gw_aload_n dX6_count_12 rfl rfl ?_
      refine gw_getf (k := 0) (v := .ref (ad 1)) oX6 clX6 inUX6 (Nat.le_of_ble_eq_true rfl) rfl lfX6_7 rfl dX6_count_13 ?_
      refine gw_iload_n dX6_count_16 rfl rfl ?_
      refine gw_bipush dX6_count_17 bp_10 ?_
      refine gw_isub dX6_count_19 ?_
      have q_23 := hw.1
      have hw := hw.2
      refine gw_iald am_1 q_23 rfl dX6_count_20 ?_
      exact gw_ireturn (ty := .int) hw rfl rfl dX6_count_21
def wp_X6_refuse (h : gw_H) (p1 : Int32) (Q : Int32 → gw_H → Prop) : Prop :=
  (vp_in (-p1) 7 ∧ (vp_in (-p1) 7 ∧ Q p1 (gw_up h 1 (-p1).toNatClampNeg ((h 1 (-p1).toNatClampNeg) + (1 : Int32)))))
set_option maxRecDepth 100000 in
set_option maxHeartbeats 4000000 in
theorem gc_X6_refuse {l : Launch} {ad : Nat → Nat} {h : gw_H} {p1 : Int32} {Q : Int32 → gw_H → Prop}  (hw : wp_X6_refuse h p1 Q) : gw_C l yX6_refuse cX6_refuse 2 (some .int) 0 0 vM ad [.ref (ad 0), .int p1] h Q := by
  refine gw_entry (own := RX6) [some (.ref (ad 0)), some (.int p1)] pl_X6 rfl rfl (Nat.le_of_ble_eq_true rfl) rfl (fun X => ?_)
  unfold wp_X6_refuse at hw
  refine gw_aload_n dX6_refuse_0 rfl rfl ?_
  refine gw_getf (k := 0) (v := .ref (ad 1)) oX6 clX6 inUX6 (Nat.le_of_ble_eq_true rfl) rfl lfX6_7 rfl dX6_refuse_1 ?_
  refine gw_iload_n dX6_refuse_4 rfl rfl ?_
  refine gw_ineg dX6_refuse_5 ?_
  refine gw_dup2 dX6_refuse_6 rfl rfl ?_
  have q_2 := hw.1
  have hw := hw.2
  refine gw_iald am_1 q_2 rfl dX6_refuse_7 ?_
  refine gw_iconst dX6_refuse_8 ic_1 ?_
  refine gw_iadd dX6_refuse_9 ?_
  have q_1 := hw.1
  have hw := hw.2
  refine gw_iast am_1 q_1 rfl dX6_refuse_10 ?_
  refine gw_iload_n dX6_refuse_11 rfl rfl ?_
  exact gw_ireturn (ty := .int) hw rfl rfl dX6_refuse_12
def wp_X6_door (h : gw_H) (p1 : Int32) (Q : Int32 → gw_H → Prop) : Prop :=
  (wp_X6_isIn h p1 (h 2 0) (fun r_2 h_1 => ((¬ r_2 = 0 → Q ((((gw_up h_1 2 1 ((h_1 2 1) ^^^ ((1 : Int32) <<< (p1 &&& 31)))) 2 1) >>> (p1 &&& 31)) &&& (1 : Int32)) (gw_up h_1 2 1 ((h_1 2 1) ^^^ ((1 : Int32) <<< (p1 &&& 31))))) ∧ (r_2 = 0 → (wp_X6_refuse h_1 (-1 : Int32) (fun r_5 h_4 => Q r_5 h_4))))))
set_option maxRecDepth 100000 in
set_option maxHeartbeats 4000000 in
theorem gc_X6_door {l : Launch} {ad : Nat → Nat} {h : gw_H} {p1 : Int32} {Q : Int32 → gw_H → Prop}  (hw : wp_X6_door h p1 Q) : gw_C l yX6_door cX6_door 2 (some .int) 1 21 vM ad [.ref (ad 0), .int p1] h Q := by
  refine gw_entry (own := RX6) [some (.ref (ad 0)), some (.int p1)] pl_X6 rfl rfl (Nat.le_of_ble_eq_true rfl) rfl (fun X => ?_)
  unfold wp_X6_door at hw
  refine gw_iload_n dX6_door_0 rfl rfl ?_
  refine gw_aload_n dX6_door_1 rfl rfl ?_
  refine gw_getf (k := 1) (v := .ref (ad 2)) oX6 clX6 inUX6 (Nat.le_of_ble_eq_true rfl) rfl lfX6_13 rfl dX6_door_2 ?_
  refine gw_iconst dX6_door_5 ic_0 ?_
  refine gw_iald am_2 in_0_73 cl_0 dX6_door_6 ?_
  refine gw_callSi (As := [.int p1, .int (h 2 0)]) (rest := []) rfl (gc_X6_isIn  hw) mX6_isIn lmX6_53 rfl rfl ⟨Nat.le_of_ble_eq_true rfl, Nat.le_of_ble_eq_true rfl⟩ (Nat.le_of_ble_eq_true rfl) dX6_door_7 (fun r_2 h_1 hw => ?_)
  refine gw_if_ne (tgt := 19) dX6_door_10 (by decide) (fun c_3 => ?_) (fun c_3 => ?_)
  · have hw := hw.1 c_3
    refine gw_aload_n dX6_door_19 rfl rfl ?_
    refine gw_getf (k := 1) (v := .ref (ad 2)) oX6 clX6 inUX6 (Nat.le_of_ble_eq_true rfl) rfl lfX6_13 rfl dX6_door_20 ?_
    refine gw_iconst dX6_door_23 ic_1 ?_
    refine gw_dup2 dX6_door_24 rfl rfl ?_
    refine gw_iald am_2 in_1_73 cl_1 dX6_door_25 ?_
    refine gw_iconst dX6_door_26 ic_1 ?_
    refine gw_iload_n dX6_door_27 rfl rfl ?_
    refine gw_ishl dX6_door_28 ?_
    refine gw_ixor dX6_door_29 ?_
    refine gw_iast am_2 in_1_73 cl_1 dX6_door_30 ?_
    refine gw_aload_n dX6_door_31 rfl rfl ?_
    refine gw_getf (k := 1) (v := .ref (ad 2)) oX6 clX6 inUX6 (Nat.le_of_ble_eq_true rfl) rfl lfX6_13 rfl dX6_door_32 ?_
    refine gw_iconst dX6_door_35 ic_1 ?_
    refine gw_iald am_2 in_1_73 cl_1 dX6_door_36 ?_
    refine gw_iload_n dX6_door_37 rfl rfl ?_
    refine gw_ishr dX6_door_38 ?_
    refine gw_iconst dX6_door_39 ic_1 ?_
    refine gw_iand dX6_door_40 ?_
    exact gw_ireturn (ty := .int) hw rfl rfl dX6_door_41
  · have hw := hw.2 c_3
    refine gw_aload_n dX6_door_13 rfl rfl ?_
    refine gw_iconst dX6_door_14 ic_m1 ?_
    refine gw_callVi (As := [.int (-1 : Int32)]) (rest := []) rfl (gc_X6_refuse  hw) mX6_refuse lmX6_120 oX6 clX6 rfl rfl ⟨Nat.le_of_ble_eq_true rfl, Nat.le_of_ble_eq_true rfl⟩ (Nat.le_of_ble_eq_true rfl) dX6_door_15 (fun r_5 h_4 hw => ?_)
    exact gw_ireturn (ty := .int) hw rfl rfl dX6_door_18
def wp_X6_ends (h : gw_H)  (Q : Int32 → gw_H → Prop) : Prop :=
  (wp_X6_lays h (5) 73 (2) 73 (fun _ h_1 => Q 0 h_1))
set_option maxRecDepth 100000 in
set_option maxHeartbeats 4000000 in
theorem gc_X6_ends {l : Launch} {ad : Nat → Nat} {h : gw_H}  {Q : Int32 → gw_H → Prop}  (hw : wp_X6_ends h  Q) : gw_C l yX6_ends cX6_ends 1 none 1 22 vM ad [.ref (ad 0)] h Q := by
  refine gw_entry (own := RX6) [some (.ref (ad 0))] pl_X6 rfl rfl (Nat.le_of_ble_eq_true rfl) rfl (fun X => ?_)
  unfold wp_X6_ends at hw
  refine gw_aload_n dX6_ends_0 rfl rfl ?_
  refine gw_getf (k := 4) (v := .ref (ad 5)) oX6 clX6 inUX6 (Nat.le_of_ble_eq_true rfl) rfl lfX6_22 rfl dX6_ends_1 ?_
  refine gw_aload_n dX6_ends_4 rfl rfl ?_
  refine gw_getf (k := 1) (v := .ref (ad 2)) oX6 clX6 inUX6 (Nat.le_of_ble_eq_true rfl) rfl lfX6_13 rfl dX6_ends_5 ?_
  refine gw_callSv (As := [.ref (ad 5), .ref (ad 2)]) (rest := []) rfl (gc_X6_lays am_5 am_2 hw) mX6_lays lmX6_49 rfl rfl ⟨Nat.le_of_ble_eq_true rfl, Nat.le_of_ble_eq_true rfl⟩ (Nat.le_of_ble_eq_true rfl) dX6_ends_8 (fun h_1 hw => ?_)
  exact gw_return hw rfl dX6_ends_11
def wp_X6_fades (h : gw_H) (p1 : Int32) (Q : Int32 → gw_H → Prop) : Prop :=
  (wp_X6_of h p1 (0 : Int32) (fun r_2 h_1 => ((r_2 = (1 : Int32) → Q (1 : Int32) h_1) ∧ (¬ r_2 = (1 : Int32) → ((r_2 = (2 : Int32) → Q (3 : Int32) h_1) ∧ (¬ r_2 = (2 : Int32) → ((r_2 = (3 : Int32) → ((¬ ((h_1 2 4) - (h_1 2 4) / (6 : Int32) * (6 : Int32)) = 0 → Q (1 : Int32) h_1) ∧ (((h_1 2 4) - (h_1 2 4) / (6 : Int32) * (6 : Int32)) = 0 → Q (-4 : Int32) h_1))) ∧ (¬ r_2 = (3 : Int32) → ((r_2 = (4 : Int32) → Q (6 : Int32) h_1) ∧ (¬ r_2 = (4 : Int32) → ((r_2 = (5 : Int32) → ((¬ ((h_1 2 4) - (h_1 2 4) / (2 : Int32) * (2 : Int32)) = (1 : Int32) → Q (1 : Int32) h_1) ∧ (((h_1 2 4) - (h_1 2 4) / (2 : Int32) * (2 : Int32)) = (1 : Int32) → Q (0 : Int32) h_1))) ∧ (¬ r_2 = (5 : Int32) → Q (2 : Int32) h_1))))))))))))
set_option maxRecDepth 100000 in
set_option maxHeartbeats 4000000 in
theorem gc_X6_fades {l : Launch} {ad : Nat → Nat} {h : gw_H} {p1 : Int32} {Q : Int32 → gw_H → Prop}  (hw : wp_X6_fades h p1 Q) : gw_C l yX6_fades cX6_fades 2 (some .int) 1 22 vM ad [.ref (ad 0), .int p1] h Q := by
  refine gw_entry (own := RX6) [some (.ref (ad 0)), some (.int p1)] pl_X6 rfl rfl (Nat.le_of_ble_eq_true rfl) rfl (fun X => ?_)
  unfold wp_X6_fades at hw
  refine gw_aload_n dX6_fades_0 rfl rfl ?_
  refine gw_iload_n dX6_fades_1 rfl rfl ?_
  refine gw_iconst dX6_fades_2 ic_0 ?_
  refine gw_callVi (As := [.int p1, .int (0 : Int32)]) (rest := []) rfl (gc_X6_of  hw) mX6_of lmX6_57 oX6 clX6 rfl rfl ⟨Nat.le_of_ble_eq_true rfl, Nat.le_of_ble_eq_true rfl⟩ (Nat.le_of_ble_eq_true rfl) dX6_fades_3 (fun r_2 h_1 hw => ?_)
  by_cases c_3 : r_2 = (1 : Int32)
  · have hw := hw.1 c_3
    refine gw_tin (k := (1 : Int32)) (off := 34) (tgt := 40) dX6_fades_6 c_3 (by decide) (by decide) (by decide) (by decide) ?_
    refine gw_iconst dX6_fades_40 ic_1 ?_
    exact gw_ireturn (ty := .int) hw rfl rfl dX6_fades_41
  · have hw := hw.2 c_3
    by_cases c_4 : r_2 = (2 : Int32)
    · have hw := hw.1 c_4
      refine gw_tin (k := (2 : Int32)) (off := 36) (tgt := 42) dX6_fades_6 c_4 (by decide) (by decide) (by decide) (by decide) ?_
      refine gw_iconst dX6_fades_42 ic_3 ?_
      exact gw_ireturn (ty := .int) hw rfl rfl dX6_fades_43
    · have hw := hw.2 c_4
      by_cases c_5 : r_2 = (3 : Int32)
      · have hw := hw.1 c_5
        refine gw_tin (k := (3 : Int32)) (off := 38) (tgt := 44) dX6_fades_6 c_5 (by decide) (by decide) (by decide) (by decide) ?_
        refine gw_aload_n dX6_fades_44 rfl rfl ?_
        refine gw_getf (k := 1) (v := .ref (ad 2)) oX6 clX6 inUX6 (Nat.le_of_ble_eq_true rfl) rfl lfX6_13 rfl dX6_fades_45 ?_
        refine gw_iconst dX6_fades_48 ic_4 ?_
        refine gw_iald am_2 in_4_73 cl_4 dX6_fades_49 ?_
        refine gw_bipush dX6_fades_50 bp_6 ?_
        refine gw_irem dX6_fades_52 (by decide) ?_
        refine gw_if_ne (tgt := 61) dX6_fades_53 (by decide) (fun c_6 => ?_) (fun c_6 => ?_)
        · have hw := hw.1 c_6
          refine gw_iconst dX6_fades_61 ic_1 ?_
          exact gw_ireturn (ty := .int) hw rfl rfl dX6_fades_62
        · have hw := hw.2 c_6
          refine gw_bipush dX6_fades_56 bp_m4 ?_
          refine gw_goto (tgt := 62) dX6_fades_58 (by decide) ?_
          exact gw_ireturn (ty := .int) hw rfl rfl dX6_fades_62
      · have hw := hw.2 c_5
        by_cases c_7 : r_2 = (4 : Int32)
        · have hw := hw.1 c_7
          refine gw_tin (k := (4 : Int32)) (off := 57) (tgt := 63) dX6_fades_6 c_7 (by decide) (by decide) (by decide) (by decide) ?_
          refine gw_bipush dX6_fades_63 bp_6 ?_
          exact gw_ireturn (ty := .int) hw rfl rfl dX6_fades_65
        · have hw := hw.2 c_7
          by_cases c_8 : r_2 = (5 : Int32)
          · have hw := hw.1 c_8
            refine gw_tin (k := (5 : Int32)) (off := 60) (tgt := 66) dX6_fades_6 c_8 (by decide) (by decide) (by decide) (by decide) ?_
            refine gw_aload_n dX6_fades_66 rfl rfl ?_
            refine gw_getf (k := 1) (v := .ref (ad 2)) oX6 clX6 inUX6 (Nat.le_of_ble_eq_true rfl) rfl lfX6_13 rfl dX6_fades_67 ?_
            refine gw_iconst dX6_fades_70 ic_4 ?_
            refine gw_iald am_2 in_4_73 cl_4 dX6_fades_71 ?_
            refine gw_iconst dX6_fades_72 ic_2 ?_
            refine gw_irem dX6_fades_73 (by decide) ?_
            refine gw_iconst dX6_fades_74 ic_1 ?_
            refine gw_icmp_ne (tgt := 82) dX6_fades_75 (by decide) (fun c_9 => ?_) (fun c_9 => ?_)
            · have hw := hw.1 c_9
              refine gw_iconst dX6_fades_82 ic_1 ?_
              exact gw_ireturn (ty := .int) hw rfl rfl dX6_fades_83
            · have hw := hw.2 c_9
              refine gw_iconst dX6_fades_78 ic_0 ?_
              refine gw_goto (tgt := 83) dX6_fades_79 (by decide) ?_
              exact gw_ireturn (ty := .int) hw rfl rfl dX6_fades_83
          · have hw := hw.2 c_8
            refine gw_tout (tgt := 84) dX6_fades_6 (by have q0 := lv_neT c_3 (a := 1) (by decide); have q1 := lv_neT c_4 (a := 2) (by decide); have q2 := lv_neT c_5 (a := 3) (by decide); have q3 := lv_neT c_7 (a := 4) (by decide); have q4 := lv_neT c_8 (a := 5) (by decide); omega) (by decide) ?_
            refine gw_iconst dX6_fades_84 ic_2 ?_
            exact gw_ireturn (ty := .int) hw rfl rfl dX6_fades_85
def wk_X6_hears_236 (p1 : Int32) (p2 : Int32)  (Q : Int32 → gw_H → Prop) : gw_H → Prop :=
  fun h => (vp_in p1 6 ∧ Q 0 (gw_up h 6 p1.toNatClampNeg (-9 : Int32)))
set_option maxRecDepth 100000 in
set_option maxHeartbeats 4000000 in
theorem tk_X6_hears_236 {l : Launch} {ad : Nat → Nat} {X : gw_X} {p1 : Int32} {p2 : Int32}  {Q : Int32 → gw_H → Prop}    (h : gw_H) (hw : wk_X6_hears_236 p1 p2  Q h) : gw_G l vM ad cX6_hears RX6 6 none 2 49 Q X h 236 [some (.ref (ad 0)), some (.int p1), some (.int p2), none, none, none] [] := by
  unfold wk_X6_hears_236 at hw
  refine gw_aload_n dX6_hears_236 rfl rfl ?_
  refine gw_getf (k := 6) (v := .ref (ad 6)) oX6 clX6 inUX6 (Nat.le_of_ble_eq_true rfl) rfl lfX6_25 rfl dX6_hears_237 ?_
  refine gw_iload_n dX6_hears_240 rfl rfl ?_
  refine gw_bipush dX6_hears_241 bp_m9 ?_
  have q_8 := hw.1
  have hw := hw.2
  refine gw_iast am_6 q_8 rfl dX6_hears_243 ?_
  exact gw_return hw rfl dX6_hears_244
def wk_X6_hears_183 (p1 : Int32) (p2 : Int32) (K18 : Int32 → gw_H → Prop) (Q : Int32 → gw_H → Prop) : Int32 → gw_H → Prop :=
  fun x3 h => (K18 (x3 + (1 : Int32)) h)
set_option maxRecDepth 100000 in
set_option maxHeartbeats 4000000 in
theorem tk_X6_hears_183 {l : Launch} {ad : Nat → Nat} {X : gw_X} {p1 : Int32} {p2 : Int32} {K18 : Int32 → gw_H → Prop} {Q : Int32 → gw_H → Prop}  (hK18 : ∀ (y3 : Int32) (h : gw_H), K18 y3 h → gw_G l vM ad cX6_hears RX6 6 none 2 49 Q X h 18 [some (.ref (ad 0)), some (.int p1), some (.int p2), some (.int y3), none, none] []) (x3 : Int32) (h : gw_H) (hw : wk_X6_hears_183 p1 p2 K18 Q x3 h) : gw_G l vM ad cX6_hears RX6 6 none 2 49 Q X h 183 [some (.ref (ad 0)), some (.int p1), some (.int p2), some (.int x3), none, none] [] := by
  unfold wk_X6_hears_183 at hw
  refine gw_iinc (ls' := [some (.ref (ad 0)), some (.int p1), some (.int p2), some (.int (x3 + (1 : Int32))), none, none]) dX6_hears_183 rfl (congrArg (fun z => x3 + z) ic_1) (Nat.le_of_ble_eq_true rfl) rfl ?_
  refine gw_goto (tgt := 18) dX6_hears_186 (by decide) ?_
  exact hK18 (x3 + (1 : Int32)) h hw
def wk_X6_hears_182 (p1 : Int32) (p2 : Int32) (K18 : Int32 → gw_H → Prop) (Q : Int32 → gw_H → Prop) : Int32 → Int32 → Int32 → gw_H → Prop :=
  fun x3 s0 s1 h => (vp_in s1 6 ∧ (wk_X6_hears_183 p1 p2 K18 Q x3 (gw_up h 6 s1.toNatClampNeg s0)))
set_option maxRecDepth 100000 in
set_option maxHeartbeats 4000000 in
theorem tk_X6_hears_182 {l : Launch} {ad : Nat → Nat} {X : gw_X} {p1 : Int32} {p2 : Int32} {K18 : Int32 → gw_H → Prop} {Q : Int32 → gw_H → Prop}  (hK18 : ∀ (y3 : Int32) (h : gw_H), K18 y3 h → gw_G l vM ad cX6_hears RX6 6 none 2 49 Q X h 18 [some (.ref (ad 0)), some (.int p1), some (.int p2), some (.int y3), none, none] []) (x3 : Int32) (s0 : Int32) (s1 : Int32) (h : gw_H) (hw : wk_X6_hears_182 p1 p2 K18 Q x3 s0 s1 h) : gw_G l vM ad cX6_hears RX6 6 none 2 49 Q X h 182 [some (.ref (ad 0)), some (.int p1), some (.int p2), some (.int x3), none, none] [.int s0, .int s1, .ref (ad 6)] := by
  unfold wk_X6_hears_182 at hw
  have q_31 := hw.1
  have hw := hw.2
  refine gw_iast am_6 q_31 rfl dX6_hears_182 ?_
  exact tk_X6_hears_183  hK18 x3 (gw_up h 6 s1.toNatClampNeg s0) hw
def wk_X6_hears_160 (p1 : Int32) (p2 : Int32) (K18 : Int32 → gw_H → Prop) (Q : Int32 → gw_H → Prop) : Int32 → Int32 → Int32 → Int32 → Int32 → gw_H → Prop :=
  fun x3 x4 x5 s0 s1 h => (vp_in s1 6 ∧ ((x5 = 0 → (vp_in p1 6 ∧ (wk_X6_hears_182 p1 p2 K18 Q x3 ((gw_up h 7 s1.toNatClampNeg s0) 6 p1.toNatClampNeg) p1 (gw_up h 7 s1.toNatClampNeg s0)))) ∧ (¬ x5 = 0 → (wk_X6_hears_182 p1 p2 K18 Q x3 x4 p1 (gw_up h 7 s1.toNatClampNeg s0)))))
set_option maxRecDepth 100000 in
set_option maxHeartbeats 4000000 in
theorem tk_X6_hears_160 {l : Launch} {ad : Nat → Nat} {X : gw_X} {p1 : Int32} {p2 : Int32} {K18 : Int32 → gw_H → Prop} {Q : Int32 → gw_H → Prop}  (hK18 : ∀ (y3 : Int32) (h : gw_H), K18 y3 h → gw_G l vM ad cX6_hears RX6 6 none 2 49 Q X h 18 [some (.ref (ad 0)), some (.int p1), some (.int p2), some (.int y3), none, none] []) (x3 : Int32) (x4 : Int32) (x5 : Int32) (s0 : Int32) (s1 : Int32) (h : gw_H) (hw : wk_X6_hears_160 p1 p2 K18 Q x3 x4 x5 s0 s1 h) : gw_G l vM ad cX6_hears RX6 6 none 2 49 Q X h 160 [some (.ref (ad 0)), some (.int p1), some (.int p2), some (.int x3), some (.int x4), some (.int x5)] [.int s0, .int s1, .ref (ad 7)] := by
  unfold wk_X6_hears_160 at hw
  have q_33 := hw.1
  have hw := hw.2
  refine gw_iast am_7 q_33 rfl dX6_hears_160 ?_
  refine gw_aload_n dX6_hears_161 rfl rfl ?_
  refine gw_getf (k := 6) (v := .ref (ad 6)) oX6 clX6 inUX6 (Nat.le_of_ble_eq_true rfl) rfl lfX6_25 rfl dX6_hears_162 ?_
  refine gw_iload_n dX6_hears_165 rfl rfl ?_
  refine gw_iload dX6_hears_166 rfl ?_
  refine gw_if_eq (tgt := 176) dX6_hears_168 (by decide) (fun c_30 => ?_) (fun c_30 => ?_)
  · have hw := hw.1 c_30
    refine gw_aload_n dX6_hears_176 rfl rfl ?_
    refine gw_getf (k := 6) (v := .ref (ad 6)) oX6 clX6 inUX6 (Nat.le_of_ble_eq_true rfl) rfl lfX6_25 rfl dX6_hears_177 ?_
    refine gw_iload_n dX6_hears_180 rfl rfl ?_
    have q_32 := hw.1
    have hw := hw.2
    refine gw_iald am_6 q_32 rfl dX6_hears_181 ?_
    refine gw_forget (ls' := [some (.ref (ad 0)), some (.int p1), some (.int p2), some (.int x3), none, none]) (gw_sub.s (gw_sub.s (gw_sub.s (gw_sub.s (gw_sub.n (gw_sub.n gw_sub.z)))))) ?_
    exact tk_X6_hears_182  hK18 x3 ((gw_up h 7 s1.toNatClampNeg s0) 6 p1.toNatClampNeg) p1 (gw_up h 7 s1.toNatClampNeg s0) hw
  · have hw := hw.2 c_30
    refine gw_iload dX6_hears_171 rfl ?_
    refine gw_goto (tgt := 182) dX6_hears_173 (by decide) ?_
    refine gw_forget (ls' := [some (.ref (ad 0)), some (.int p1), some (.int p2), some (.int x3), none, none]) (gw_sub.s (gw_sub.s (gw_sub.s (gw_sub.s (gw_sub.n (gw_sub.n gw_sub.z)))))) ?_
    exact tk_X6_hears_182  hK18 x3 x4 p1 (gw_up h 7 s1.toNatClampNeg s0) hw
def wk_X6_hears_138 (p1 : Int32) (p2 : Int32) (K18 : Int32 → gw_H → Prop) (Q : Int32 → gw_H → Prop) : Int32 → Int32 → Int32 → gw_H → Prop :=
  fun x3 x4 s0 h => ((s0 = 0 → (vp_in p1 6 ∧ (wk_X6_hears_160 p1 p2 K18 Q x3 x4 s0 (h 7 p1.toNatClampNeg) p1 h))) ∧ (¬ s0 = 0 → (wk_X6_hears_160 p1 p2 K18 Q x3 x4 s0 x3 p1 h)))
set_option maxRecDepth 100000 in
set_option maxHeartbeats 4000000 in
theorem tk_X6_hears_138 {l : Launch} {ad : Nat → Nat} {X : gw_X} {p1 : Int32} {p2 : Int32} {K18 : Int32 → gw_H → Prop} {Q : Int32 → gw_H → Prop}  (hK18 : ∀ (y3 : Int32) (h : gw_H), K18 y3 h → gw_G l vM ad cX6_hears RX6 6 none 2 49 Q X h 18 [some (.ref (ad 0)), some (.int p1), some (.int p2), some (.int y3), none, none] []) (x3 : Int32) (x4 : Int32) (s0 : Int32) (h : gw_H) (hw : wk_X6_hears_138 p1 p2 K18 Q x3 x4 s0 h) : gw_G l vM ad cX6_hears RX6 6 none 2 49 Q X h 138 [some (.ref (ad 0)), some (.int p1), some (.int p2), some (.int x3), some (.int x4), none] [.int s0] := by
  unfold wk_X6_hears_138 at hw
  refine gw_istore (ls' := [some (.ref (ad 0)), some (.int p1), some (.int p2), some (.int x3), some (.int x4), some (.int s0)]) dX6_hears_138 (Nat.le_of_ble_eq_true rfl) rfl ?_
  refine gw_aload_n dX6_hears_140 rfl rfl ?_
  refine gw_getf (k := 7) (v := .ref (ad 7)) oX6 clX6 inUX6 (Nat.le_of_ble_eq_true rfl) rfl lfX6_28 rfl dX6_hears_141 ?_
  refine gw_iload_n dX6_hears_144 rfl rfl ?_
  refine gw_iload dX6_hears_145 rfl ?_
  refine gw_if_eq (tgt := 154) dX6_hears_147 (by decide) (fun c_29 => ?_) (fun c_29 => ?_)
  · have hw := hw.1 c_29
    refine gw_aload_n dX6_hears_154 rfl rfl ?_
    refine gw_getf (k := 7) (v := .ref (ad 7)) oX6 clX6 inUX6 (Nat.le_of_ble_eq_true rfl) rfl lfX6_28 rfl dX6_hears_155 ?_
    refine gw_iload_n dX6_hears_158 rfl rfl ?_
    have q_34 := hw.1
    have hw := hw.2
    refine gw_iald am_7 q_34 rfl dX6_hears_159 ?_
    exact tk_X6_hears_160  hK18 x3 x4 s0 (h 7 p1.toNatClampNeg) p1 h hw
  · have hw := hw.2 c_29
    refine gw_iload_n dX6_hears_150 rfl rfl ?_
    refine gw_goto (tgt := 160) dX6_hears_151 (by decide) ?_
    exact tk_X6_hears_160  hK18 x3 x4 s0 x3 p1 h hw
def wk_X6_hears_133 (p1 : Int32) (p2 : Int32) (K18 : Int32 → gw_H → Prop) (Q : Int32 → gw_H → Prop) : Int32 → Int32 → gw_H → Prop :=
  fun x3 x4 h => (wk_X6_hears_138 p1 p2 K18 Q x3 x4 (1 : Int32) h)
set_option maxRecDepth 100000 in
set_option maxHeartbeats 4000000 in
theorem tk_X6_hears_133 {l : Launch} {ad : Nat → Nat} {X : gw_X} {p1 : Int32} {p2 : Int32} {K18 : Int32 → gw_H → Prop} {Q : Int32 → gw_H → Prop}  (hK18 : ∀ (y3 : Int32) (h : gw_H), K18 y3 h → gw_G l vM ad cX6_hears RX6 6 none 2 49 Q X h 18 [some (.ref (ad 0)), some (.int p1), some (.int p2), some (.int y3), none, none] []) (x3 : Int32) (x4 : Int32) (h : gw_H) (hw : wk_X6_hears_133 p1 p2 K18 Q x3 x4 h) : gw_G l vM ad cX6_hears RX6 6 none 2 49 Q X h 133 [some (.ref (ad 0)), some (.int p1), some (.int p2), some (.int x3), some (.int x4), none] [] := by
  unfold wk_X6_hears_133 at hw
  refine gw_iconst dX6_hears_133 ic_1 ?_
  refine gw_goto (tgt := 138) dX6_hears_134 (by decide) ?_
  exact tk_X6_hears_138  hK18 x3 x4 (1 : Int32) h hw
def wk_X6_hears_137 (p1 : Int32) (p2 : Int32) (K18 : Int32 → gw_H → Prop) (Q : Int32 → gw_H → Prop) : Int32 → Int32 → gw_H → Prop :=
  fun x3 x4 h => (wk_X6_hears_138 p1 p2 K18 Q x3 x4 (0 : Int32) h)
set_option maxRecDepth 100000 in
set_option maxHeartbeats 4000000 in
theorem tk_X6_hears_137 {l : Launch} {ad : Nat → Nat} {X : gw_X} {p1 : Int32} {p2 : Int32} {K18 : Int32 → gw_H → Prop} {Q : Int32 → gw_H → Prop}  (hK18 : ∀ (y3 : Int32) (h : gw_H), K18 y3 h → gw_G l vM ad cX6_hears RX6 6 none 2 49 Q X h 18 [some (.ref (ad 0)), some (.int p1), some (.int p2), some (.int y3), none, none] []) (x3 : Int32) (x4 : Int32) (h : gw_H) (hw : wk_X6_hears_137 p1 p2 K18 Q x3 x4 h) : gw_G l vM ad cX6_hears RX6 6 none 2 49 Q X h 137 [some (.ref (ad 0)), some (.int p1), some (.int p2), some (.int x3), some (.int x4), none] [] := by
  unfold wk_X6_hears_137 at hw
  refine gw_iconst dX6_hears_137 ic_0 ?_
  exact tk_X6_hears_138  hK18 x3 x4 (0 : Int32) h hw
def wl_X6_hears_18 (p1 : Int32) (p2 : Int32)  (Q : Int32 → gw_H → Prop) : Nat → Int32 → gw_H → Prop
  | 0 => fun _ _ => False
  | n + 1 => fun x3 h => (((h 2 3) ≤ x3 → (vp_in p1 6 ∧ (((h 6 p1.toNatClampNeg) < 0 → Q 0 h) ∧ (¬ (h 6 p1.toNatClampNeg) < 0 → (vp_in p1 6 ∧ (wp_X6_of h (h 6 p1.toNatClampNeg) (1 : Int32) (fun r_4 h_3 => (wp_X6_bar h_3 p1 (fun r_6 h_5 => ((r_4 ≤ r_6 → (wk_X6_hears_236 p1 p2  Q h_5)) ∧ (¬ r_4 ≤ r_6 → (vp_in p1 6 ∧ (wp_X6_fresh h_5 (h_5 6 p1.toNatClampNeg) (fun r_10 h_9 => (wp_X6_at h_9 p1 (4 : Int32) (fun r_12 h_11 => ((r_12 < r_10 → Q 0 h_11) ∧ (¬ r_12 < r_10 → (wk_X6_hears_236 p1 p2  Q h_11))))))))))))))))))) ∧ (¬ (h 2 3) ≤ x3 → ((((p2 >>> (x3 &&& 31)) &&& (1 : Int32)) = 0 → (wk_X6_hears_183 p1 p2 (wl_X6_hears_18 p1 p2  Q n) Q x3 h)) ∧ (¬ ((p2 >>> (x3 &&& 31)) &&& (1 : Int32)) = 0 → (wp_X6_areNear h p1 x3 (fun r_19 h_18 => ((r_19 = 0 → (wk_X6_hears_183 p1 p2 (wl_X6_hears_18 p1 p2  Q n) Q x3 h_18)) ∧ (¬ r_19 = 0 → (wp_X6_at h_18 x3 (3 : Int32) (fun r_22 h_21 => (wp_X6_at h_21 p1 (3 : Int32) (fun r_24 h_23 => ((¬ r_22 = r_24 → (wp_X6_at h_23 x3 (3 : Int32) (fun r_27 h_26 => (vp_in p1 6 ∧ (((h_26 6 p1.toNatClampNeg) < 0 → (wk_X6_hears_133 p1 p2 (wl_X6_hears_18 p1 p2  Q n) Q x3 r_27 h_26)) ∧ (¬ (h_26 6 p1.toNatClampNeg) < 0 → (wp_X6_of h_26 r_27 (1 : Int32) (fun r_36 h_35 => (vp_in p1 6 ∧ (wp_X6_of h_35 (h_35 6 p1.toNatClampNeg) (1 : Int32) (fun r_38 h_37 => ((r_38 < r_36 → (wk_X6_hears_133 p1 p2 (wl_X6_hears_18 p1 p2  Q n) Q x3 r_27 h_37)) ∧ (¬ r_38 < r_36 → (wp_X6_of h_37 r_27 (1 : Int32) (fun r_41 h_40 => (vp_in p1 6 ∧ (wp_X6_of h_40 (h_40 6 p1.toNatClampNeg) (1 : Int32) (fun r_43 h_42 => ((¬ r_41 = r_43 → (wk_X6_hears_137 p1 p2 (wl_X6_hears_18 p1 p2  Q n) Q x3 r_27 h_42)) ∧ (r_41 = r_43 → (vp_in p1 6 ∧ (((h_42 6 p1.toNatClampNeg) ≤ r_27 → (wk_X6_hears_137 p1 p2 (wl_X6_hears_18 p1 p2  Q n) Q x3 r_27 h_42)) ∧ (¬ (h_42 6 p1.toNatClampNeg) ≤ r_27 → (wk_X6_hears_133 p1 p2 (wl_X6_hears_18 p1 p2  Q n) Q x3 r_27 h_42)))))))))))))))))))))))) ∧ (r_22 = r_24 → (wk_X6_hears_183 p1 p2 (wl_X6_hears_18 p1 p2  Q n) Q x3 h_23)))))))))))))))
set_option maxRecDepth 100000 in
set_option maxHeartbeats 4000000 in
theorem tl_X6_hears_18 {l : Launch} {ad : Nat → Nat} {X : gw_X} {p1 : Int32} {p2 : Int32}  {Q : Int32 → gw_H → Prop}   : ∀ (n : Nat) (x3 : Int32) (h : gw_H), wl_X6_hears_18 p1 p2  Q n x3 h → gw_G l vM ad cX6_hears RX6 6 none 2 49 Q X h 18 [some (.ref (ad 0)), some (.int p1), some (.int p2), some (.int x3), none, none] [] := by
  intro n
  induction n with
  | zero => intro x3 h hw; exact hw.elim
  | succ n ih =>
    intro x3 h hw
    unfold wl_X6_hears_18 at hw
    refine gw_iload_n dX6_hears_18 rfl rfl ?_
    refine gw_aload_n dX6_hears_19 rfl rfl ?_
    refine gw_getf (k := 1) (v := .ref (ad 2)) oX6 clX6 inUX6 (Nat.le_of_ble_eq_true rfl) rfl lfX6_13 rfl dX6_hears_20 ?_
    refine gw_iconst dX6_hears_23 ic_3 ?_
    refine gw_iald am_2 in_3_73 cl_3 dX6_hears_24 ?_
    refine gw_icmp_ge (tgt := 189) dX6_hears_25 (by decide) (fun c_1 => ?_) (fun c_1 => ?_)
    · have hw := hw.1 c_1
      refine gw_aload_n dX6_hears_189 rfl rfl ?_
      refine gw_getf (k := 6) (v := .ref (ad 6)) oX6 clX6 inUX6 (Nat.le_of_ble_eq_true rfl) rfl lfX6_25 rfl dX6_hears_190 ?_
      refine gw_iload_n dX6_hears_193 rfl rfl ?_
      have q_16 := hw.1
      have hw := hw.2
      refine gw_iald am_6 q_16 rfl dX6_hears_194 ?_
      refine gw_if_lt (tgt := 244) dX6_hears_195 (by decide) (fun c_2 => ?_) (fun c_2 => ?_)
      · have hw := hw.1 c_2
        exact gw_return hw rfl dX6_hears_244
      · have hw := hw.2 c_2
        refine gw_aload_n dX6_hears_198 rfl rfl ?_
        refine gw_aload_n dX6_hears_199 rfl rfl ?_
        refine gw_getf (k := 6) (v := .ref (ad 6)) oX6 clX6 inUX6 (Nat.le_of_ble_eq_true rfl) rfl lfX6_25 rfl dX6_hears_200 ?_
        refine gw_iload_n dX6_hears_203 rfl rfl ?_
        have q_15 := hw.1
        have hw := hw.2
        refine gw_iald am_6 q_15 rfl dX6_hears_204 ?_
        refine gw_iconst dX6_hears_205 ic_1 ?_
        refine gw_callVi (As := [.int (h 6 p1.toNatClampNeg), .int (1 : Int32)]) (rest := []) rfl (gc_X6_of  hw) mX6_of lmX6_57 oX6 clX6 rfl rfl ⟨Nat.le_of_ble_eq_true rfl, Nat.le_of_ble_eq_true rfl⟩ (Nat.le_of_ble_eq_true rfl) dX6_hears_206 (fun r_4 h_3 hw => ?_)
        refine gw_aload_n dX6_hears_209 rfl rfl ?_
        refine gw_iload_n dX6_hears_210 rfl rfl ?_
        refine gw_callVi (As := [.int p1]) (rest := [.int r_4]) rfl (gc_X6_bar  hw) mX6_bar lmX6_75 oX6 clX6 rfl rfl ⟨Nat.le_of_ble_eq_true rfl, Nat.le_of_ble_eq_true rfl⟩ (Nat.le_of_ble_eq_true rfl) dX6_hears_211 (fun r_6 h_5 hw => ?_)
        refine gw_icmp_le (tgt := 236) dX6_hears_214 (by decide) (fun c_7 => ?_) (fun c_7 => ?_)
        · have hw := hw.1 c_7
          refine gw_forget (ls' := [some (.ref (ad 0)), some (.int p1), some (.int p2), none, none, none]) (gw_sub.s (gw_sub.s (gw_sub.s (gw_sub.n (gw_sub.n (gw_sub.n gw_sub.z)))))) ?_
          exact tk_X6_hears_236   h_5 hw
        · have hw := hw.2 c_7
          refine gw_aload_n dX6_hears_217 rfl rfl ?_
          refine gw_aload_n dX6_hears_218 rfl rfl ?_
          refine gw_getf (k := 6) (v := .ref (ad 6)) oX6 clX6 inUX6 (Nat.le_of_ble_eq_true rfl) rfl lfX6_25 rfl dX6_hears_219 ?_
          refine gw_iload_n dX6_hears_222 rfl rfl ?_
          have q_14 := hw.1
          have hw := hw.2
          refine gw_iald am_6 q_14 rfl dX6_hears_223 ?_
          refine gw_callVi (As := [.int (h_5 6 p1.toNatClampNeg)]) (rest := []) rfl (gc_X6_fresh  hw) mX6_fresh lmX6_68 oX6 clX6 rfl rfl ⟨Nat.le_of_ble_eq_true rfl, Nat.le_of_ble_eq_true rfl⟩ (Nat.le_of_ble_eq_true rfl) dX6_hears_224 (fun r_10 h_9 hw => ?_)
          refine gw_aload_n dX6_hears_227 rfl rfl ?_
          refine gw_iload_n dX6_hears_228 rfl rfl ?_
          refine gw_iconst dX6_hears_229 ic_4 ?_
          refine gw_callVi (As := [.int p1, .int (4 : Int32)]) (rest := [.int r_10]) rfl (gc_X6_at  hw) mX6_at lmX6_61 oX6 clX6 rfl rfl ⟨Nat.le_of_ble_eq_true rfl, Nat.le_of_ble_eq_true rfl⟩ (Nat.le_of_ble_eq_true rfl) dX6_hears_230 (fun r_12 h_11 hw => ?_)
          refine gw_icmp_gt (tgt := 244) dX6_hears_233 (by decide) (fun c_13 => ?_) (fun c_13 => ?_)
          · have hw := hw.1 c_13
            exact gw_return hw rfl dX6_hears_244
          · have hw := hw.2 c_13
            refine gw_forget (ls' := [some (.ref (ad 0)), some (.int p1), some (.int p2), none, none, none]) (gw_sub.s (gw_sub.s (gw_sub.s (gw_sub.n (gw_sub.n (gw_sub.n gw_sub.z)))))) ?_
            exact tk_X6_hears_236   h_11 hw
    · have hw := hw.2 c_1
      refine gw_iload_n dX6_hears_28 rfl rfl ?_
      refine gw_iload_n dX6_hears_29 rfl rfl ?_
      refine gw_ishr dX6_hears_30 ?_
      refine gw_iconst dX6_hears_31 ic_1 ?_
      refine gw_iand dX6_hears_32 ?_
      refine gw_if_eq (tgt := 183) dX6_hears_33 (by decide) (fun c_17 => ?_) (fun c_17 => ?_)
      · have hw := hw.1 c_17
        exact tk_X6_hears_183   ih x3 h hw
      · have hw := hw.2 c_17
        refine gw_aload_n dX6_hears_36 rfl rfl ?_
        refine gw_iload_n dX6_hears_37 rfl rfl ?_
        refine gw_iload_n dX6_hears_38 rfl rfl ?_
        refine gw_callVi (As := [.int p1, .int x3]) (rest := []) rfl (gc_X6_areNear  hw) mX6_areNear lmX6_72 oX6 clX6 rfl rfl ⟨Nat.le_of_ble_eq_true rfl, Nat.le_of_ble_eq_true rfl⟩ (Nat.le_of_ble_eq_true rfl) dX6_hears_39 (fun r_19 h_18 hw => ?_)
        refine gw_if_eq (tgt := 183) dX6_hears_42 (by decide) (fun c_20 => ?_) (fun c_20 => ?_)
        · have hw := hw.1 c_20
          exact tk_X6_hears_183   ih x3 h_18 hw
        · have hw := hw.2 c_20
          refine gw_aload_n dX6_hears_45 rfl rfl ?_
          refine gw_iload_n dX6_hears_46 rfl rfl ?_
          refine gw_iconst dX6_hears_47 ic_3 ?_
          refine gw_callVi (As := [.int x3, .int (3 : Int32)]) (rest := []) rfl (gc_X6_at  hw) mX6_at lmX6_61 oX6 clX6 rfl rfl ⟨Nat.le_of_ble_eq_true rfl, Nat.le_of_ble_eq_true rfl⟩ (Nat.le_of_ble_eq_true rfl) dX6_hears_48 (fun r_22 h_21 hw => ?_)
          refine gw_aload_n dX6_hears_51 rfl rfl ?_
          refine gw_iload_n dX6_hears_52 rfl rfl ?_
          refine gw_iconst dX6_hears_53 ic_3 ?_
          refine gw_callVi (As := [.int p1, .int (3 : Int32)]) (rest := [.int r_22]) rfl (gc_X6_at  hw) mX6_at lmX6_61 oX6 clX6 rfl rfl ⟨Nat.le_of_ble_eq_true rfl, Nat.le_of_ble_eq_true rfl⟩ (Nat.le_of_ble_eq_true rfl) dX6_hears_54 (fun r_24 h_23 hw => ?_)
          refine gw_icmp_ne (tgt := 63) dX6_hears_57 (by decide) (fun c_25 => ?_) (fun c_25 => ?_)
          · have hw := hw.1 c_25
            refine gw_aload_n dX6_hears_63 rfl rfl ?_
            refine gw_iload_n dX6_hears_64 rfl rfl ?_
            refine gw_iconst dX6_hears_65 ic_3 ?_
            refine gw_callVi (As := [.int x3, .int (3 : Int32)]) (rest := []) rfl (gc_X6_at  hw) mX6_at lmX6_61 oX6 clX6 rfl rfl ⟨Nat.le_of_ble_eq_true rfl, Nat.le_of_ble_eq_true rfl⟩ (Nat.le_of_ble_eq_true rfl) dX6_hears_66 (fun r_27 h_26 hw => ?_)
            refine gw_istore (ls' := [some (.ref (ad 0)), some (.int p1), some (.int p2), some (.int x3), some (.int r_27), none]) dX6_hears_69 (Nat.le_of_ble_eq_true rfl) rfl ?_
            refine gw_aload_n dX6_hears_71 rfl rfl ?_
            refine gw_getf (k := 6) (v := .ref (ad 6)) oX6 clX6 inUX6 (Nat.le_of_ble_eq_true rfl) rfl lfX6_25 rfl dX6_hears_72 ?_
            refine gw_iload_n dX6_hears_75 rfl rfl ?_
            have q_49 := hw.1
            have hw := hw.2
            refine gw_iald am_6 q_49 rfl dX6_hears_76 ?_
            refine gw_if_lt (tgt := 133) dX6_hears_77 (by decide) (fun c_28 => ?_) (fun c_28 => ?_)
            · have hw := hw.1 c_28
              exact tk_X6_hears_133   ih x3 r_27 h_26 hw
            · have hw := hw.2 c_28
              refine gw_aload_n dX6_hears_80 rfl rfl ?_
              refine gw_iload dX6_hears_81 rfl ?_
              refine gw_iconst dX6_hears_83 ic_1 ?_
              refine gw_callVi (As := [.int r_27, .int (1 : Int32)]) (rest := []) rfl (gc_X6_of  hw) mX6_of lmX6_57 oX6 clX6 rfl rfl ⟨Nat.le_of_ble_eq_true rfl, Nat.le_of_ble_eq_true rfl⟩ (Nat.le_of_ble_eq_true rfl) dX6_hears_84 (fun r_36 h_35 hw => ?_)
              refine gw_aload_n dX6_hears_87 rfl rfl ?_
              refine gw_aload_n dX6_hears_88 rfl rfl ?_
              refine gw_getf (k := 6) (v := .ref (ad 6)) oX6 clX6 inUX6 (Nat.le_of_ble_eq_true rfl) rfl lfX6_25 rfl dX6_hears_89 ?_
              refine gw_iload_n dX6_hears_92 rfl rfl ?_
              have q_48 := hw.1
              have hw := hw.2
              refine gw_iald am_6 q_48 rfl dX6_hears_93 ?_
              refine gw_iconst dX6_hears_94 ic_1 ?_
              refine gw_callVi (As := [.int (h_35 6 p1.toNatClampNeg), .int (1 : Int32)]) (rest := [.int r_36]) rfl (gc_X6_of  hw) mX6_of lmX6_57 oX6 clX6 rfl rfl ⟨Nat.le_of_ble_eq_true rfl, Nat.le_of_ble_eq_true rfl⟩ (Nat.le_of_ble_eq_true rfl) dX6_hears_95 (fun r_38 h_37 hw => ?_)
              refine gw_icmp_gt (tgt := 133) dX6_hears_98 (by decide) (fun c_39 => ?_) (fun c_39 => ?_)
              · have hw := hw.1 c_39
                exact tk_X6_hears_133   ih x3 r_27 h_37 hw
              · have hw := hw.2 c_39
                refine gw_aload_n dX6_hears_101 rfl rfl ?_
                refine gw_iload dX6_hears_102 rfl ?_
                refine gw_iconst dX6_hears_104 ic_1 ?_
                refine gw_callVi (As := [.int r_27, .int (1 : Int32)]) (rest := []) rfl (gc_X6_of  hw) mX6_of lmX6_57 oX6 clX6 rfl rfl ⟨Nat.le_of_ble_eq_true rfl, Nat.le_of_ble_eq_true rfl⟩ (Nat.le_of_ble_eq_true rfl) dX6_hears_105 (fun r_41 h_40 hw => ?_)
                refine gw_aload_n dX6_hears_108 rfl rfl ?_
                refine gw_aload_n dX6_hears_109 rfl rfl ?_
                refine gw_getf (k := 6) (v := .ref (ad 6)) oX6 clX6 inUX6 (Nat.le_of_ble_eq_true rfl) rfl lfX6_25 rfl dX6_hears_110 ?_
                refine gw_iload_n dX6_hears_113 rfl rfl ?_
                have q_47 := hw.1
                have hw := hw.2
                refine gw_iald am_6 q_47 rfl dX6_hears_114 ?_
                refine gw_iconst dX6_hears_115 ic_1 ?_
                refine gw_callVi (As := [.int (h_40 6 p1.toNatClampNeg), .int (1 : Int32)]) (rest := [.int r_41]) rfl (gc_X6_of  hw) mX6_of lmX6_57 oX6 clX6 rfl rfl ⟨Nat.le_of_ble_eq_true rfl, Nat.le_of_ble_eq_true rfl⟩ (Nat.le_of_ble_eq_true rfl) dX6_hears_116 (fun r_43 h_42 hw => ?_)
                refine gw_icmp_ne (tgt := 137) dX6_hears_119 (by decide) (fun c_44 => ?_) (fun c_44 => ?_)
                · have hw := hw.1 c_44
                  exact tk_X6_hears_137   ih x3 r_27 h_42 hw
                · have hw := hw.2 c_44
                  refine gw_iload dX6_hears_122 rfl ?_
                  refine gw_aload_n dX6_hears_124 rfl rfl ?_
                  refine gw_getf (k := 6) (v := .ref (ad 6)) oX6 clX6 inUX6 (Nat.le_of_ble_eq_true rfl) rfl lfX6_25 rfl dX6_hears_125 ?_
                  refine gw_iload_n dX6_hears_128 rfl rfl ?_
                  have q_46 := hw.1
                  have hw := hw.2
                  refine gw_iald am_6 q_46 rfl dX6_hears_129 ?_
                  refine gw_icmp_ge (tgt := 137) dX6_hears_130 (by decide) (fun c_45 => ?_) (fun c_45 => ?_)
                  · have hw := hw.1 c_45
                    exact tk_X6_hears_137   ih x3 r_27 h_42 hw
                  · have hw := hw.2 c_45
                    exact tk_X6_hears_133   ih x3 r_27 h_42 hw
          · have hw := hw.2 c_25
            refine gw_goto (tgt := 183) dX6_hears_60 (by decide) ?_
            exact tk_X6_hears_183   ih x3 h_23 hw
def wp_X6_hears (h : gw_H) (p1 : Int32) (p2 : Int32) (Q : Int32 → gw_H → Prop) : Prop :=
  (vp_in p1 6 ∧ (vp_in p1 6 ∧ (∃ n_50 : Nat, wl_X6_hears_18 p1 p2  Q n_50 (0 : Int32) (gw_up (gw_up h 6 p1.toNatClampNeg (-9 : Int32)) 7 p1.toNatClampNeg (-9 : Int32)))))
set_option maxRecDepth 100000 in
set_option maxHeartbeats 4000000 in
theorem gc_X6_hears {l : Launch} {ad : Nat → Nat} {h : gw_H} {p1 : Int32} {p2 : Int32} {Q : Int32 → gw_H → Prop}  (hw : wp_X6_hears h p1 p2 Q) : gw_C l yX6_hears cX6_hears 6 none 2 49 vM ad [.ref (ad 0), .int p1, .int p2] h Q := by
  refine gw_entry (own := RX6) [some (.ref (ad 0)), some (.int p1), some (.int p2), none, none, none] pl_X6 rfl rfl (Nat.le_of_ble_eq_true rfl) rfl (fun X => ?_)
  unfold wp_X6_hears at hw
  refine gw_aload_n dX6_hears_0 rfl rfl ?_
  refine gw_getf (k := 6) (v := .ref (ad 6)) oX6 clX6 inUX6 (Nat.le_of_ble_eq_true rfl) rfl lfX6_25 rfl dX6_hears_1 ?_
  refine gw_iload_n dX6_hears_4 rfl rfl ?_
  refine gw_bipush dX6_hears_5 bp_m9 ?_
  have q_52 := hw.1
  have hw := hw.2
  refine gw_iast am_6 q_52 rfl dX6_hears_7 ?_
  refine gw_aload_n dX6_hears_8 rfl rfl ?_
  refine gw_getf (k := 7) (v := .ref (ad 7)) oX6 clX6 inUX6 (Nat.le_of_ble_eq_true rfl) rfl lfX6_28 rfl dX6_hears_9 ?_
  refine gw_iload_n dX6_hears_12 rfl rfl ?_
  refine gw_bipush dX6_hears_13 bp_m9 ?_
  have q_51 := hw.1
  have hw := hw.2
  refine gw_iast am_7 q_51 rfl dX6_hears_15 ?_
  refine gw_iconst dX6_hears_16 ic_0 ?_
  refine gw_istore_n (ls' := [some (.ref (ad 0)), some (.int p1), some (.int p2), some (.int (0 : Int32)), none, none]) dX6_hears_17 rfl (Nat.le_of_ble_eq_true rfl) rfl ?_
  obtain ⟨n_50, hw⟩ := hw
  exact tl_X6_hears_18   n_50 (0 : Int32) (gw_up (gw_up h 6 p1.toNatClampNeg (-9 : Int32)) 7 p1.toNatClampNeg (-9 : Int32)) hw
def wk_X6_hums_73 (p1 : Int32)  (Q : Int32 → gw_H → Prop) : gw_H → Prop :=
  fun h => (wp_X6_at h p1 (4 : Int32) (fun r_9 h_8 => ((r_9 < (h_8 2 5) → Q (0 : Int32) h_8) ∧ (¬ r_9 < (h_8 2 5) → Q (1 : Int32) h_8))))
set_option maxRecDepth 100000 in
set_option maxHeartbeats 4000000 in
theorem tk_X6_hums_73 {l : Launch} {ad : Nat → Nat} {X : gw_X} {p1 : Int32}  {Q : Int32 → gw_H → Prop}    (h : gw_H) (hw : wk_X6_hums_73 p1  Q h) : gw_G l vM ad cX6_hums RX6 2 (some .boolean) 1 22 Q X h 73 [some (.ref (ad 0)), some (.int p1)] [] := by
  unfold wk_X6_hums_73 at hw
  refine gw_aload_n dX6_hums_73 rfl rfl ?_
  refine gw_iload_n dX6_hums_74 rfl rfl ?_
  refine gw_iconst dX6_hums_75 ic_4 ?_
  refine gw_callVi (As := [.int p1, .int (4 : Int32)]) (rest := []) rfl (gc_X6_at  hw) mX6_at lmX6_61 oX6 clX6 rfl rfl ⟨Nat.le_of_ble_eq_true rfl, Nat.le_of_ble_eq_true rfl⟩ (Nat.le_of_ble_eq_true rfl) dX6_hums_76 (fun r_9 h_8 hw => ?_)
  refine gw_aload_n dX6_hums_79 rfl rfl ?_
  refine gw_getf (k := 1) (v := .ref (ad 2)) oX6 clX6 inUX6 (Nat.le_of_ble_eq_true rfl) rfl lfX6_13 rfl dX6_hums_80 ?_
  refine gw_iconst dX6_hums_83 ic_5 ?_
  refine gw_iald am_2 in_5_73 cl_5 dX6_hums_84 ?_
  refine gw_icmp_lt (tgt := 92) dX6_hums_85 (by decide) (fun c_10 => ?_) (fun c_10 => ?_)
  · have hw := hw.1 c_10
    refine gw_iconst dX6_hums_92 ic_0 ?_
    exact gw_ireturn (ty := .boolean) hw rfl rfl dX6_hums_93
  · have hw := hw.2 c_10
    refine gw_iconst dX6_hums_88 ic_1 ?_
    refine gw_goto (tgt := 93) dX6_hums_89 (by decide) ?_
    exact gw_ireturn (ty := .boolean) hw rfl rfl dX6_hums_93
def wp_X6_hums (h : gw_H) (p1 : Int32) (Q : Int32 → gw_H → Prop) : Prop :=
  (wp_X6_at h p1 (3 : Int32) (fun r_2 h_1 => ((0 ≤ r_2 → (wp_X6_at h_1 p1 (0 : Int32) (fun r_5 h_4 => ((r_5 = (1 : Int32) → Q (1 : Int32) h_4) ∧ (¬ r_5 = (1 : Int32) → ((r_5 = (2 : Int32) → (wk_X6_hums_73 p1  Q h_4)) ∧ (¬ r_5 = (2 : Int32) → ((r_5 = (3 : Int32) → (wk_X6_hums_73 p1  Q h_4)) ∧ (¬ r_5 = (3 : Int32) → ((r_5 = (4 : Int32) → Q (0 : Int32) h_4) ∧ (¬ r_5 = (4 : Int32) → ((r_5 = (5 : Int32) → ((¬ ((h_4 2 4) - (h_4 2 4) / (2 : Int32) * (2 : Int32)) = 0 → Q (0 : Int32) h_4) ∧ (((h_4 2 4) - (h_4 2 4) / (2 : Int32) * (2 : Int32)) = 0 → Q (1 : Int32) h_4))) ∧ (¬ r_5 = (5 : Int32) → (wk_X6_hums_73 p1  Q h_4)))))))))))))) ∧ (¬ 0 ≤ r_2 → Q (0 : Int32) h_1))))
set_option maxRecDepth 100000 in
set_option maxHeartbeats 4000000 in
theorem gc_X6_hums {l : Launch} {ad : Nat → Nat} {h : gw_H} {p1 : Int32} {Q : Int32 → gw_H → Prop}  (hw : wp_X6_hums h p1 Q) : gw_C l yX6_hums cX6_hums 2 (some .boolean) 1 22 vM ad [.ref (ad 0), .int p1] h Q := by
  refine gw_entry (own := RX6) [some (.ref (ad 0)), some (.int p1)] pl_X6 rfl rfl (Nat.le_of_ble_eq_true rfl) rfl (fun X => ?_)
  unfold wp_X6_hums at hw
  refine gw_aload_n dX6_hums_0 rfl rfl ?_
  refine gw_iload_n dX6_hums_1 rfl rfl ?_
  refine gw_iconst dX6_hums_2 ic_3 ?_
  refine gw_callVi (As := [.int p1, .int (3 : Int32)]) (rest := []) rfl (gc_X6_at  hw) mX6_at lmX6_61 oX6 clX6 rfl rfl ⟨Nat.le_of_ble_eq_true rfl, Nat.le_of_ble_eq_true rfl⟩ (Nat.le_of_ble_eq_true rfl) dX6_hums_3 (fun r_2 h_1 hw => ?_)
  refine gw_if_ge (tgt := 11) dX6_hums_6 (by decide) (fun c_3 => ?_) (fun c_3 => ?_)
  · have hw := hw.1 c_3
    refine gw_aload_n dX6_hums_11 rfl rfl ?_
    refine gw_iload_n dX6_hums_12 rfl rfl ?_
    refine gw_iconst dX6_hums_13 ic_0 ?_
    refine gw_callVi (As := [.int p1, .int (0 : Int32)]) (rest := []) rfl (gc_X6_at  hw) mX6_at lmX6_61 oX6 clX6 rfl rfl ⟨Nat.le_of_ble_eq_true rfl, Nat.le_of_ble_eq_true rfl⟩ (Nat.le_of_ble_eq_true rfl) dX6_hums_14 (fun r_5 h_4 hw => ?_)
    by_cases c_6 : r_5 = (1 : Int32)
    · have hw := hw.1 c_6
      refine gw_tin (k := (1 : Int32)) (off := 35) (tgt := 52) dX6_hums_17 c_6 (by decide) (by decide) (by decide) (by decide) ?_
      refine gw_iconst dX6_hums_52 ic_1 ?_
      exact gw_ireturn (ty := .boolean) hw rfl rfl dX6_hums_53
    · have hw := hw.2 c_6
      by_cases c_7 : r_5 = (2 : Int32)
      · have hw := hw.1 c_7
        refine gw_tin (k := (2 : Int32)) (off := 56) (tgt := 73) dX6_hums_17 c_7 (by decide) (by decide) (by decide) (by decide) ?_
        exact tk_X6_hums_73   h_4 hw
      · have hw := hw.2 c_7
        by_cases c_11 : r_5 = (3 : Int32)
        · have hw := hw.1 c_11
          refine gw_tin (k := (3 : Int32)) (off := 56) (tgt := 73) dX6_hums_17 c_11 (by decide) (by decide) (by decide) (by decide) ?_
          exact tk_X6_hums_73   h_4 hw
        · have hw := hw.2 c_11
          by_cases c_12 : r_5 = (4 : Int32)
          · have hw := hw.1 c_12
            refine gw_tin (k := (4 : Int32)) (off := 37) (tgt := 54) dX6_hums_17 c_12 (by decide) (by decide) (by decide) (by decide) ?_
            refine gw_iconst dX6_hums_54 ic_0 ?_
            exact gw_ireturn (ty := .boolean) hw rfl rfl dX6_hums_55
          · have hw := hw.2 c_12
            by_cases c_13 : r_5 = (5 : Int32)
            · have hw := hw.1 c_13
              refine gw_tin (k := (5 : Int32)) (off := 39) (tgt := 56) dX6_hums_17 c_13 (by decide) (by decide) (by decide) (by decide) ?_
              refine gw_aload_n dX6_hums_56 rfl rfl ?_
              refine gw_getf (k := 1) (v := .ref (ad 2)) oX6 clX6 inUX6 (Nat.le_of_ble_eq_true rfl) rfl lfX6_13 rfl dX6_hums_57 ?_
              refine gw_iconst dX6_hums_60 ic_4 ?_
              refine gw_iald am_2 in_4_73 cl_4 dX6_hums_61 ?_
              refine gw_iconst dX6_hums_62 ic_2 ?_
              refine gw_irem dX6_hums_63 (by decide) ?_
              refine gw_if_ne (tgt := 71) dX6_hums_64 (by decide) (fun c_14 => ?_) (fun c_14 => ?_)
              · have hw := hw.1 c_14
                refine gw_iconst dX6_hums_71 ic_0 ?_
                exact gw_ireturn (ty := .boolean) hw rfl rfl dX6_hums_72
              · have hw := hw.2 c_14
                refine gw_iconst dX6_hums_67 ic_1 ?_
                refine gw_goto (tgt := 72) dX6_hums_68 (by decide) ?_
                exact gw_ireturn (ty := .boolean) hw rfl rfl dX6_hums_72
            · have hw := hw.2 c_13
              refine gw_tout (tgt := 73) dX6_hums_17 (by have q0 := lv_neT c_6 (a := 1) (by decide); have q1 := lv_neT c_7 (a := 2) (by decide); have q2 := lv_neT c_11 (a := 3) (by decide); have q3 := lv_neT c_12 (a := 4) (by decide); have q4 := lv_neT c_13 (a := 5) (by decide); omega) (by decide) ?_
              exact tk_X6_hums_73   h_4 hw
  · have hw := hw.2 c_3
    refine gw_iconst dX6_hums_9 ic_0 ?_
    exact gw_ireturn (ty := .boolean) hw rfl rfl dX6_hums_10
def wk_X6_wanes_52 (p1 : Int32)  (Q : Int32 → gw_H → Prop) : Int32 → gw_H → Prop :=
  fun s0 h => ((0 < s0 → (wp_X6_puts h p1 (4 : Int32) s0 (fun _ h_13 => Q 0 h_13))) ∧ (¬ 0 < s0 → (wp_X6_gets h p1 (-9 : Int32) (fun _ h_14 => Q 0 h_14))))
set_option maxRecDepth 100000 in
set_option maxHeartbeats 4000000 in
theorem tk_X6_wanes_52 {l : Launch} {ad : Nat → Nat} {X : gw_X} {p1 : Int32}  {Q : Int32 → gw_H → Prop}   (s0 : Int32) (h : gw_H) (hw : wk_X6_wanes_52 p1  Q s0 h) : gw_G l vM ad cX6_wanes RX6 4 none 3 67 Q X h 52 [some (.ref (ad 0)), some (.int p1), none, none] [.int s0] := by
  unfold wk_X6_wanes_52 at hw
  refine gw_istore_n (ls' := [some (.ref (ad 0)), some (.int p1), none, some (.int s0)]) dX6_wanes_52 rfl (Nat.le_of_ble_eq_true rfl) rfl ?_
  refine gw_iload_n dX6_wanes_53 rfl rfl ?_
  refine gw_if_gt (tgt := 67) dX6_wanes_54 (by decide) (fun c_12 => ?_) (fun c_12 => ?_)
  · have hw := hw.1 c_12
    refine gw_aload_n dX6_wanes_67 rfl rfl ?_
    refine gw_iload_n dX6_wanes_68 rfl rfl ?_
    refine gw_iconst dX6_wanes_69 ic_4 ?_
    refine gw_iload_n dX6_wanes_70 rfl rfl ?_
    refine gw_callVv (As := [.int p1, .int (4 : Int32), .int s0]) (rest := []) rfl (gc_X6_puts  hw) mX6_puts lmX6_64 oX6 clX6 rfl rfl ⟨Nat.le_of_ble_eq_true rfl, Nat.le_of_ble_eq_true rfl⟩ (Nat.le_of_ble_eq_true rfl) dX6_wanes_71 (fun h_13 hw => ?_)
    exact gw_return hw rfl dX6_wanes_74
  · have hw := hw.2 c_12
    refine gw_aload_n dX6_wanes_57 rfl rfl ?_
    refine gw_iload_n dX6_wanes_58 rfl rfl ?_
    refine gw_bipush dX6_wanes_59 bp_m9 ?_
    refine gw_callVv (As := [.int p1, .int (-9 : Int32)]) (rest := []) rfl (gc_X6_gets  hw) mX6_gets lmX6_81 oX6 clX6 rfl rfl ⟨Nat.le_of_ble_eq_true rfl, Nat.le_of_ble_eq_true rfl⟩ (Nat.le_of_ble_eq_true rfl) dX6_wanes_61 (fun h_14 hw => ?_)
    refine gw_goto (tgt := 74) dX6_wanes_64 (by decide) ?_
    exact gw_return hw rfl dX6_wanes_74
def wk_X6_wanes_38 (p1 : Int32)  (Q : Int32 → gw_H → Prop) : Int32 → Int32 → gw_H → Prop :=
  fun s0 s1 h => (((s1 - s0) ≤ (60 : Int32) → (wk_X6_wanes_52 p1  Q (s1 - s0) h)) ∧ (¬ (s1 - s0) ≤ (60 : Int32) → (wk_X6_wanes_52 p1  Q (60 : Int32) h)))
set_option maxRecDepth 100000 in
set_option maxHeartbeats 4000000 in
theorem tk_X6_wanes_38 {l : Launch} {ad : Nat → Nat} {X : gw_X} {p1 : Int32}  {Q : Int32 → gw_H → Prop}   (s0 : Int32) (s1 : Int32) (h : gw_H) (hw : wk_X6_wanes_38 p1  Q s0 s1 h) : gw_G l vM ad cX6_wanes RX6 4 none 3 67 Q X h 38 [some (.ref (ad 0)), some (.int p1), none, none] [.int s0, .int s1] := by
  unfold wk_X6_wanes_38 at hw
  refine gw_isub dX6_wanes_38 ?_
  refine gw_istore_n (ls' := [some (.ref (ad 0)), some (.int p1), none, some (.int (s1 - s0))]) dX6_wanes_39 rfl (Nat.le_of_ble_eq_true rfl) rfl ?_
  refine gw_iload_n dX6_wanes_40 rfl rfl ?_
  refine gw_bipush dX6_wanes_41 bp_60 ?_
  refine gw_icmp_le (tgt := 51) dX6_wanes_43 (by decide) (fun c_11 => ?_) (fun c_11 => ?_)
  · have hw := hw.1 c_11
    refine gw_iload_n dX6_wanes_51 rfl rfl ?_
    refine gw_forget (ls' := [some (.ref (ad 0)), some (.int p1), none, none]) (gw_sub.s (gw_sub.s (gw_sub.n (gw_sub.n gw_sub.z)))) ?_
    exact tk_X6_wanes_52   (s1 - s0) h hw
  · have hw := hw.2 c_11
    refine gw_bipush dX6_wanes_46 bp_60 ?_
    refine gw_goto (tgt := 52) dX6_wanes_48 (by decide) ?_
    refine gw_forget (ls' := [some (.ref (ad 0)), some (.int p1), none, none]) (gw_sub.s (gw_sub.s (gw_sub.n (gw_sub.n gw_sub.z)))) ?_
    exact tk_X6_wanes_52   (60 : Int32) h hw
def wp_X6_wanes (h : gw_H) (p1 : Int32) (Q : Int32 → gw_H → Prop) : Prop :=
  (wp_X6_at h p1 (3 : Int32) (fun r_2 h_1 => ((0 ≤ r_2 → (wp_X6_at h_1 p1 (4 : Int32) (fun r_5 h_4 => (wp_X6_fades h_4 r_2 (fun r_7 h_6 => (wp_X6_at h_6 p1 (5 : Int32) (fun r_9 h_8 => ((r_9 ≤ 0 → (wk_X6_wanes_38 p1  Q (0 : Int32) (r_5 - r_7) h_8)) ∧ (¬ r_9 ≤ 0 → (wk_X6_wanes_38 p1  Q (1 : Int32) (r_5 - r_7) h_8)))))))))) ∧ (¬ 0 ≤ r_2 → Q 0 h_1))))
set_option maxRecDepth 100000 in
set_option maxHeartbeats 4000000 in
theorem gc_X6_wanes {l : Launch} {ad : Nat → Nat} {h : gw_H} {p1 : Int32} {Q : Int32 → gw_H → Prop}  (hw : wp_X6_wanes h p1 Q) : gw_C l yX6_wanes cX6_wanes 4 none 3 67 vM ad [.ref (ad 0), .int p1] h Q := by
  refine gw_entry (own := RX6) [some (.ref (ad 0)), some (.int p1), none, none] pl_X6 rfl rfl (Nat.le_of_ble_eq_true rfl) rfl (fun X => ?_)
  unfold wp_X6_wanes at hw
  refine gw_aload_n dX6_wanes_0 rfl rfl ?_
  refine gw_iload_n dX6_wanes_1 rfl rfl ?_
  refine gw_iconst dX6_wanes_2 ic_3 ?_
  refine gw_callVi (As := [.int p1, .int (3 : Int32)]) (rest := []) rfl (gc_X6_at  hw) mX6_at lmX6_61 oX6 clX6 rfl rfl ⟨Nat.le_of_ble_eq_true rfl, Nat.le_of_ble_eq_true rfl⟩ (Nat.le_of_ble_eq_true rfl) dX6_wanes_3 (fun r_2 h_1 hw => ?_)
  refine gw_istore_n (ls' := [some (.ref (ad 0)), some (.int p1), some (.int r_2), none]) dX6_wanes_6 rfl (Nat.le_of_ble_eq_true rfl) rfl ?_
  refine gw_iload_n dX6_wanes_7 rfl rfl ?_
  refine gw_if_ge (tgt := 12) dX6_wanes_8 (by decide) (fun c_3 => ?_) (fun c_3 => ?_)
  · have hw := hw.1 c_3
    refine gw_aload_n dX6_wanes_12 rfl rfl ?_
    refine gw_iload_n dX6_wanes_13 rfl rfl ?_
    refine gw_iconst dX6_wanes_14 ic_4 ?_
    refine gw_callVi (As := [.int p1, .int (4 : Int32)]) (rest := []) rfl (gc_X6_at  hw) mX6_at lmX6_61 oX6 clX6 rfl rfl ⟨Nat.le_of_ble_eq_true rfl, Nat.le_of_ble_eq_true rfl⟩ (Nat.le_of_ble_eq_true rfl) dX6_wanes_15 (fun r_5 h_4 hw => ?_)
    refine gw_aload_n dX6_wanes_18 rfl rfl ?_
    refine gw_iload_n dX6_wanes_19 rfl rfl ?_
    refine gw_callVi (As := [.int r_2]) (rest := [.int r_5]) rfl (gc_X6_fades  hw) mX6_fades lmX6_78 oX6 clX6 rfl rfl ⟨Nat.le_of_ble_eq_true rfl, Nat.le_of_ble_eq_true rfl⟩ (Nat.le_of_ble_eq_true rfl) dX6_wanes_20 (fun r_7 h_6 hw => ?_)
    refine gw_isub dX6_wanes_23 ?_
    refine gw_aload_n dX6_wanes_24 rfl rfl ?_
    refine gw_iload_n dX6_wanes_25 rfl rfl ?_
    refine gw_iconst dX6_wanes_26 ic_5 ?_
    refine gw_callVi (As := [.int p1, .int (5 : Int32)]) (rest := [.int (r_5 - r_7)]) rfl (gc_X6_at  hw) mX6_at lmX6_61 oX6 clX6 rfl rfl ⟨Nat.le_of_ble_eq_true rfl, Nat.le_of_ble_eq_true rfl⟩ (Nat.le_of_ble_eq_true rfl) dX6_wanes_27 (fun r_9 h_8 hw => ?_)
    refine gw_if_le (tgt := 37) dX6_wanes_30 (by decide) (fun c_10 => ?_) (fun c_10 => ?_)
    · have hw := hw.1 c_10
      refine gw_iconst dX6_wanes_37 ic_0 ?_
      refine gw_forget (ls' := [some (.ref (ad 0)), some (.int p1), none, none]) (gw_sub.s (gw_sub.s (gw_sub.n (gw_sub.n gw_sub.z)))) ?_
      exact tk_X6_wanes_38   (0 : Int32) (r_5 - r_7) h_8 hw
    · have hw := hw.2 c_10
      refine gw_iconst dX6_wanes_33 ic_1 ?_
      refine gw_goto (tgt := 38) dX6_wanes_34 (by decide) ?_
      refine gw_forget (ls' := [some (.ref (ad 0)), some (.int p1), none, none]) (gw_sub.s (gw_sub.s (gw_sub.n (gw_sub.n gw_sub.z)))) ?_
      exact tk_X6_wanes_38   (1 : Int32) (r_5 - r_7) h_8 hw
  · have hw := hw.2 c_3
    exact gw_return hw rfl dX6_wanes_11
def wk_X6_goes_171  (K78 : Int32 → Int32 → gw_H → Prop) (Q : Int32 → gw_H → Prop) : Int32 → Int32 → gw_H → Prop :=
  fun x2 x3 h => (K78 x2 (x3 + (1 : Int32)) h)
set_option maxRecDepth 100000 in
set_option maxHeartbeats 4000000 in
theorem tk_X6_goes_171 {l : Launch} {ad : Nat → Nat} {X : gw_X}  {K78 : Int32 → Int32 → gw_H → Prop} {Q : Int32 → gw_H → Prop}  (hK78 : ∀ (y2 : Int32) (y3 : Int32) (h : gw_H), K78 y2 y3 h → gw_G l vM ad cX6_goes RX6 4 (some .int) 4 90 Q X h 78 [some (.ref (ad 0)), none, some (.int y2), some (.int y3)] []) (x2 : Int32) (x3 : Int32) (h : gw_H) (hw : wk_X6_goes_171  K78 Q x2 x3 h) : gw_G l vM ad cX6_goes RX6 4 (some .int) 4 90 Q X h 171 [some (.ref (ad 0)), none, some (.int x2), some (.int x3)] [] := by
  unfold wk_X6_goes_171 at hw
  refine gw_iinc (ls' := [some (.ref (ad 0)), none, some (.int x2), some (.int (x3 + (1 : Int32)))]) dX6_goes_171 rfl (congrArg (fun z => x3 + z) ic_1) (Nat.le_of_ble_eq_true rfl) rfl ?_
  refine gw_goto (tgt := 78) dX6_goes_174 (by decide) ?_
  exact hK78 x2 (x3 + (1 : Int32)) h hw
def wk_X6_goes_148  (K78 : Int32 → Int32 → gw_H → Prop) (Q : Int32 → gw_H → Prop) : Int32 → Int32 → gw_H → Prop :=
  fun x2 x3 h => (wp_X6_at h x3 (5 : Int32) (fun r_7 h_6 => ((r_7 ≤ 0 → (wk_X6_goes_171  K78 Q x2 x3 h_6)) ∧ (¬ r_7 ≤ 0 → (wp_X6_at h_6 x3 (5 : Int32) (fun r_10 h_9 => (wp_X6_puts h_9 x3 (5 : Int32) (r_10 - (1 : Int32)) (fun _ h_11 => (wk_X6_goes_171  K78 Q x2 x3 h_11)))))))))
set_option maxRecDepth 100000 in
set_option maxHeartbeats 4000000 in
theorem tk_X6_goes_148 {l : Launch} {ad : Nat → Nat} {X : gw_X}  {K78 : Int32 → Int32 → gw_H → Prop} {Q : Int32 → gw_H → Prop}  (hK78 : ∀ (y2 : Int32) (y3 : Int32) (h : gw_H), K78 y2 y3 h → gw_G l vM ad cX6_goes RX6 4 (some .int) 4 90 Q X h 78 [some (.ref (ad 0)), none, some (.int y2), some (.int y3)] []) (x2 : Int32) (x3 : Int32) (h : gw_H) (hw : wk_X6_goes_148  K78 Q x2 x3 h) : gw_G l vM ad cX6_goes RX6 4 (some .int) 4 90 Q X h 148 [some (.ref (ad 0)), none, some (.int x2), some (.int x3)] [] := by
  unfold wk_X6_goes_148 at hw
  refine gw_aload_n dX6_goes_148 rfl rfl ?_
  refine gw_iload_n dX6_goes_149 rfl rfl ?_
  refine gw_iconst dX6_goes_150 ic_5 ?_
  refine gw_callVi (As := [.int x3, .int (5 : Int32)]) (rest := []) rfl (gc_X6_at  hw) mX6_at lmX6_61 oX6 clX6 rfl rfl ⟨Nat.le_of_ble_eq_true rfl, Nat.le_of_ble_eq_true rfl⟩ (Nat.le_of_ble_eq_true rfl) dX6_goes_151 (fun r_7 h_6 hw => ?_)
  refine gw_if_le (tgt := 171) dX6_goes_154 (by decide) (fun c_8 => ?_) (fun c_8 => ?_)
  · have hw := hw.1 c_8
    exact tk_X6_goes_171  hK78 x2 x3 h_6 hw
  · have hw := hw.2 c_8
    refine gw_aload_n dX6_goes_157 rfl rfl ?_
    refine gw_iload_n dX6_goes_158 rfl rfl ?_
    refine gw_iconst dX6_goes_159 ic_5 ?_
    refine gw_aload_n dX6_goes_160 rfl rfl ?_
    refine gw_iload_n dX6_goes_161 rfl rfl ?_
    refine gw_iconst dX6_goes_162 ic_5 ?_
    refine gw_callVi (As := [.int x3, .int (5 : Int32)]) (rest := [.int (5 : Int32), .int x3, .ref (ad 0)]) rfl (gc_X6_at  hw) mX6_at lmX6_61 oX6 clX6 rfl rfl ⟨Nat.le_of_ble_eq_true rfl, Nat.le_of_ble_eq_true rfl⟩ (Nat.le_of_ble_eq_true rfl) dX6_goes_163 (fun r_10 h_9 hw => ?_)
    refine gw_iconst dX6_goes_166 ic_1 ?_
    refine gw_isub dX6_goes_167 ?_
    refine gw_callVv (As := [.int x3, .int (5 : Int32), .int (r_10 - (1 : Int32))]) (rest := []) rfl (gc_X6_puts  hw) mX6_puts lmX6_64 oX6 clX6 rfl rfl ⟨Nat.le_of_ble_eq_true rfl, Nat.le_of_ble_eq_true rfl⟩ (Nat.le_of_ble_eq_true rfl) dX6_goes_168 (fun h_11 hw => ?_)
    exact tk_X6_goes_171  hK78 x2 x3 h_11 hw
def wl_X6_goes_78   (Q : Int32 → gw_H → Prop) : Nat → Int32 → Int32 → gw_H → Prop
  | 0 => fun _ _ _ => False
  | n + 1 => fun x2 x3 h => (((h 2 3) ≤ x3 → Q x2 (gw_up h 2 4 ((h 2 4) + (1 : Int32)))) ∧ (¬ (h 2 3) ≤ x3 → (vp_in x3 6 ∧ (((h 6 x3.toNatClampNeg) < 0 → (wp_X6_wanes h x3 (fun _ h_5 => (wk_X6_goes_148  (wl_X6_goes_78   Q n) Q x2 x3 h_5)))) ∧ (¬ (h 6 x3.toNatClampNeg) < 0 → (vp_in x3 6 ∧ (wp_X6_gets h x3 (h 6 x3.toNatClampNeg) (fun _ h_12 => (vp_in x3 6 ∧ (vp_in x3 6 ∧ (vp_in x3 6 ∧ (vp_in ((gw_up h_12 8 x3.toNatClampNeg (h_12 7 x3.toNatClampNeg)) 7 x3.toNatClampNeg) 6 ∧ (vp_in x3 6 ∧ (wk_X6_goes_148  (wl_X6_goes_78   Q n) Q (x2 + (1 : Int32)) x3 (gw_up (gw_up h_12 8 x3.toNatClampNeg (h_12 7 x3.toNatClampNeg)) 9 x3.toNatClampNeg ((gw_up h_12 8 x3.toNatClampNeg (h_12 7 x3.toNatClampNeg)) 10 ((gw_up h_12 8 x3.toNatClampNeg (h_12 7 x3.toNatClampNeg)) 7 x3.toNatClampNeg).toNatClampNeg))))))))))))))))
set_option maxRecDepth 100000 in
set_option maxHeartbeats 4000000 in
theorem tl_X6_goes_78 {l : Launch} {ad : Nat → Nat} {X : gw_X}   {Q : Int32 → gw_H → Prop}   : ∀ (n : Nat) (x2 : Int32) (x3 : Int32) (h : gw_H), wl_X6_goes_78   Q n x2 x3 h → gw_G l vM ad cX6_goes RX6 4 (some .int) 4 90 Q X h 78 [some (.ref (ad 0)), none, some (.int x2), some (.int x3)] [] := by
  intro n
  induction n with
  | zero => intro x2 x3 h hw; exact hw.elim
  | succ n ih =>
    intro x2 x3 h hw
    unfold wl_X6_goes_78 at hw
    refine gw_iload_n dX6_goes_78 rfl rfl ?_
    refine gw_aload_n dX6_goes_79 rfl rfl ?_
    refine gw_getf (k := 1) (v := .ref (ad 2)) oX6 clX6 inUX6 (Nat.le_of_ble_eq_true rfl) rfl lfX6_13 rfl dX6_goes_80 ?_
    refine gw_iconst dX6_goes_83 ic_3 ?_
    refine gw_iald am_2 in_3_73 cl_3 dX6_goes_84 ?_
    refine gw_icmp_ge (tgt := 177) dX6_goes_85 (by decide) (fun c_3 => ?_) (fun c_3 => ?_)
    · have hw := hw.1 c_3
      refine gw_aload_n dX6_goes_177 rfl rfl ?_
      refine gw_getf (k := 1) (v := .ref (ad 2)) oX6 clX6 inUX6 (Nat.le_of_ble_eq_true rfl) rfl lfX6_13 rfl dX6_goes_178 ?_
      refine gw_iconst dX6_goes_181 ic_4 ?_
      refine gw_dup2 dX6_goes_182 rfl rfl ?_
      refine gw_iald am_2 in_4_73 cl_4 dX6_goes_183 ?_
      refine gw_iconst dX6_goes_184 ic_1 ?_
      refine gw_iadd dX6_goes_185 ?_
      refine gw_iast am_2 in_4_73 cl_4 dX6_goes_186 ?_
      refine gw_iload_n dX6_goes_187 rfl rfl ?_
      exact gw_ireturn (ty := .int) hw rfl rfl dX6_goes_188
    · have hw := hw.2 c_3
      refine gw_aload_n dX6_goes_88 rfl rfl ?_
      refine gw_getf (k := 6) (v := .ref (ad 6)) oX6 clX6 inUX6 (Nat.le_of_ble_eq_true rfl) rfl lfX6_25 rfl dX6_goes_89 ?_
      refine gw_iload_n dX6_goes_92 rfl rfl ?_
      have q_19 := hw.1
      have hw := hw.2
      refine gw_iald am_6 q_19 rfl dX6_goes_93 ?_
      refine gw_if_lt (tgt := 143) dX6_goes_94 (by decide) (fun c_4 => ?_) (fun c_4 => ?_)
      · have hw := hw.1 c_4
        refine gw_aload_n dX6_goes_143 rfl rfl ?_
        refine gw_iload_n dX6_goes_144 rfl rfl ?_
        refine gw_callVv (As := [.int x3]) (rest := []) rfl (gc_X6_wanes  hw) mX6_wanes lmX6_92 oX6 clX6 rfl rfl ⟨Nat.le_of_ble_eq_true rfl, Nat.le_of_ble_eq_true rfl⟩ (Nat.le_of_ble_eq_true rfl) dX6_goes_145 (fun h_5 hw => ?_)
        exact tk_X6_goes_148   ih x2 x3 h_5 hw
      · have hw := hw.2 c_4
        refine gw_aload_n dX6_goes_97 rfl rfl ?_
        refine gw_iload_n dX6_goes_98 rfl rfl ?_
        refine gw_aload_n dX6_goes_99 rfl rfl ?_
        refine gw_getf (k := 6) (v := .ref (ad 6)) oX6 clX6 inUX6 (Nat.le_of_ble_eq_true rfl) rfl lfX6_25 rfl dX6_goes_100 ?_
        refine gw_iload_n dX6_goes_103 rfl rfl ?_
        have q_18 := hw.1
        have hw := hw.2
        refine gw_iald am_6 q_18 rfl dX6_goes_104 ?_
        refine gw_callVv (As := [.int x3, .int (h 6 x3.toNatClampNeg)]) (rest := []) rfl (gc_X6_gets  hw) mX6_gets lmX6_81 oX6 clX6 rfl rfl ⟨Nat.le_of_ble_eq_true rfl, Nat.le_of_ble_eq_true rfl⟩ (Nat.le_of_ble_eq_true rfl) dX6_goes_105 (fun h_12 hw => ?_)
        refine gw_aload_n dX6_goes_108 rfl rfl ?_
        refine gw_getf (k := 8) (v := .ref (ad 8)) oX6 clX6 inUX6 (Nat.le_of_ble_eq_true rfl) rfl lfX6_31 rfl dX6_goes_109 ?_
        refine gw_iload_n dX6_goes_112 rfl rfl ?_
        refine gw_aload_n dX6_goes_113 rfl rfl ?_
        refine gw_getf (k := 7) (v := .ref (ad 7)) oX6 clX6 inUX6 (Nat.le_of_ble_eq_true rfl) rfl lfX6_28 rfl dX6_goes_114 ?_
        refine gw_iload_n dX6_goes_117 rfl rfl ?_
        have q_17 := hw.1
        have hw := hw.2
        refine gw_iald am_7 q_17 rfl dX6_goes_118 ?_
        have q_16 := hw.1
        have hw := hw.2
        refine gw_iast am_8 q_16 rfl dX6_goes_119 ?_
        refine gw_aload_n dX6_goes_120 rfl rfl ?_
        refine gw_getf (k := 9) (v := .ref (ad 9)) oX6 clX6 inUX6 (Nat.le_of_ble_eq_true rfl) rfl lfX6_34 rfl dX6_goes_121 ?_
        refine gw_iload_n dX6_goes_124 rfl rfl ?_
        refine gw_aload_n dX6_goes_125 rfl rfl ?_
        refine gw_getf (k := 10) (v := .ref (ad 10)) oX6 clX6 inUX6 (Nat.le_of_ble_eq_true rfl) rfl lfX6_37 rfl dX6_goes_126 ?_
        refine gw_aload_n dX6_goes_129 rfl rfl ?_
        refine gw_getf (k := 7) (v := .ref (ad 7)) oX6 clX6 inUX6 (Nat.le_of_ble_eq_true rfl) rfl lfX6_28 rfl dX6_goes_130 ?_
        refine gw_iload_n dX6_goes_133 rfl rfl ?_
        have q_15 := hw.1
        have hw := hw.2
        refine gw_iald am_7 q_15 rfl dX6_goes_134 ?_
        have q_14 := hw.1
        have hw := hw.2
        refine gw_iald am_10 q_14 rfl dX6_goes_135 ?_
        have q_13 := hw.1
        have hw := hw.2
        refine gw_iast am_9 q_13 rfl dX6_goes_136 ?_
        refine gw_iinc (ls' := [some (.ref (ad 0)), none, some (.int (x2 + (1 : Int32))), some (.int x3)]) dX6_goes_137 rfl (congrArg (fun z => x2 + z) ic_1) (Nat.le_of_ble_eq_true rfl) rfl ?_
        refine gw_goto (tgt := 148) dX6_goes_140 (by decide) ?_
        exact tk_X6_goes_148   ih (x2 + (1 : Int32)) x3 (gw_up (gw_up h_12 8 x3.toNatClampNeg (h_12 7 x3.toNatClampNeg)) 9 x3.toNatClampNeg ((gw_up h_12 8 x3.toNatClampNeg (h_12 7 x3.toNatClampNeg)) 10 ((gw_up h_12 8 x3.toNatClampNeg (h_12 7 x3.toNatClampNeg)) 7 x3.toNatClampNeg).toNatClampNeg)) hw
def wl_X6_goes_42   (Q : Int32 → gw_H → Prop) : Nat → Int32 → Int32 → Int32 → gw_H → Prop
  | 0 => fun _ _ _ _ => False
  | n + 1 => fun x1 x2 x3 h => (((h 2 3) ≤ x3 → (∃ n_20 : Nat, wl_X6_goes_78   Q n_20 x2 (0 : Int32) h)) ∧ (¬ (h 2 3) ≤ x3 → (wp_X6_hears h x3 x1 (fun _ h_21 => (vp_in x3 6 ∧ (vp_in x3 6 ∧ ((wl_X6_goes_42   Q n) x1 x2 (x3 + (1 : Int32)) (gw_up h_21 10 x3.toNatClampNeg (h_21 9 x3.toNatClampNeg)))))))))
set_option maxRecDepth 100000 in
set_option maxHeartbeats 4000000 in
theorem tl_X6_goes_42 {l : Launch} {ad : Nat → Nat} {X : gw_X}   {Q : Int32 → gw_H → Prop}   : ∀ (n : Nat) (x1 : Int32) (x2 : Int32) (x3 : Int32) (h : gw_H), wl_X6_goes_42   Q n x1 x2 x3 h → gw_G l vM ad cX6_goes RX6 4 (some .int) 4 90 Q X h 42 [some (.ref (ad 0)), some (.int x1), some (.int x2), some (.int x3)] [] := by
  intro n
  induction n with
  | zero => intro x1 x2 x3 h hw; exact hw.elim
  | succ n ih =>
    intro x1 x2 x3 h hw
    unfold wl_X6_goes_42 at hw
    refine gw_iload_n dX6_goes_42 rfl rfl ?_
    refine gw_aload_n dX6_goes_43 rfl rfl ?_
    refine gw_getf (k := 1) (v := .ref (ad 2)) oX6 clX6 inUX6 (Nat.le_of_ble_eq_true rfl) rfl lfX6_13 rfl dX6_goes_44 ?_
    refine gw_iconst dX6_goes_47 ic_3 ?_
    refine gw_iald am_2 in_3_73 cl_3 dX6_goes_48 ?_
    refine gw_icmp_ge (tgt := 76) dX6_goes_49 (by decide) (fun c_2 => ?_) (fun c_2 => ?_)
    · have hw := hw.1 c_2
      refine gw_iconst dX6_goes_76 ic_0 ?_
      refine gw_istore_n (ls' := [some (.ref (ad 0)), some (.int x1), some (.int x2), some (.int (0 : Int32))]) dX6_goes_77 rfl (Nat.le_of_ble_eq_true rfl) rfl ?_
      refine gw_forget (ls' := [some (.ref (ad 0)), none, some (.int x2), some (.int (0 : Int32))]) (gw_sub.s (gw_sub.n (gw_sub.s (gw_sub.s gw_sub.z)))) ?_
      obtain ⟨n_20, hw⟩ := hw
      exact tl_X6_goes_78   n_20 x2 (0 : Int32) h hw
    · have hw := hw.2 c_2
      refine gw_aload_n dX6_goes_52 rfl rfl ?_
      refine gw_iload_n dX6_goes_53 rfl rfl ?_
      refine gw_iload_n dX6_goes_54 rfl rfl ?_
      refine gw_callVv (As := [.int x3, .int x1]) (rest := []) rfl (gc_X6_hears  hw) mX6_hears lmX6_89 oX6 clX6 rfl rfl ⟨Nat.le_of_ble_eq_true rfl, Nat.le_of_ble_eq_true rfl⟩ (Nat.le_of_ble_eq_true rfl) dX6_goes_55 (fun h_21 hw => ?_)
      refine gw_aload_n dX6_goes_58 rfl rfl ?_
      refine gw_getf (k := 10) (v := .ref (ad 10)) oX6 clX6 inUX6 (Nat.le_of_ble_eq_true rfl) rfl lfX6_37 rfl dX6_goes_59 ?_
      refine gw_iload_n dX6_goes_62 rfl rfl ?_
      refine gw_aload_n dX6_goes_63 rfl rfl ?_
      refine gw_getf (k := 9) (v := .ref (ad 9)) oX6 clX6 inUX6 (Nat.le_of_ble_eq_true rfl) rfl lfX6_34 rfl dX6_goes_64 ?_
      refine gw_iload_n dX6_goes_67 rfl rfl ?_
      have q_23 := hw.1
      have hw := hw.2
      refine gw_iald am_9 q_23 rfl dX6_goes_68 ?_
      have q_22 := hw.1
      have hw := hw.2
      refine gw_iast am_10 q_22 rfl dX6_goes_69 ?_
      refine gw_iinc (ls' := [some (.ref (ad 0)), some (.int x1), some (.int x2), some (.int (x3 + (1 : Int32)))]) dX6_goes_70 rfl (congrArg (fun z => x3 + z) ic_1) (Nat.le_of_ble_eq_true rfl) rfl ?_
      refine gw_goto (tgt := 42) dX6_goes_73 (by decide) ?_
      exact ih x1 x2 (x3 + (1 : Int32)) (gw_up h_21 10 x3.toNatClampNeg (h_21 9 x3.toNatClampNeg)) hw
def wk_X6_goes_32  (K6 : Int32 → Int32 → Int32 → gw_H → Prop) (Q : Int32 → gw_H → Prop) : Int32 → Int32 → Int32 → Int32 → gw_H → Prop :=
  fun x2 x3 s0 s1 h => (K6 (s1 ||| s0) x2 (x3 + (1 : Int32)) h)
set_option maxRecDepth 100000 in
set_option maxHeartbeats 4000000 in
theorem tk_X6_goes_32 {l : Launch} {ad : Nat → Nat} {X : gw_X}  {K6 : Int32 → Int32 → Int32 → gw_H → Prop} {Q : Int32 → gw_H → Prop}  (hK6 : ∀ (y1 : Int32) (y2 : Int32) (y3 : Int32) (h : gw_H), K6 y1 y2 y3 h → gw_G l vM ad cX6_goes RX6 4 (some .int) 4 90 Q X h 6 [some (.ref (ad 0)), some (.int y1), some (.int y2), some (.int y3)] []) (x2 : Int32) (x3 : Int32) (s0 : Int32) (s1 : Int32) (h : gw_H) (hw : wk_X6_goes_32  K6 Q x2 x3 s0 s1 h) : gw_G l vM ad cX6_goes RX6 4 (some .int) 4 90 Q X h 32 [some (.ref (ad 0)), none, some (.int x2), some (.int x3)] [.int s0, .int s1] := by
  unfold wk_X6_goes_32 at hw
  refine gw_ior dX6_goes_32 ?_
  refine gw_istore_n (ls' := [some (.ref (ad 0)), some (.int (s1 ||| s0)), some (.int x2), some (.int x3)]) dX6_goes_33 rfl (Nat.le_of_ble_eq_true rfl) rfl ?_
  refine gw_iinc (ls' := [some (.ref (ad 0)), some (.int (s1 ||| s0)), some (.int x2), some (.int (x3 + (1 : Int32)))]) dX6_goes_34 rfl (congrArg (fun z => x3 + z) ic_1) (Nat.le_of_ble_eq_true rfl) rfl ?_
  refine gw_goto (tgt := 6) dX6_goes_37 (by decide) ?_
  exact hK6 (s1 ||| s0) x2 (x3 + (1 : Int32)) h hw
def wl_X6_goes_6   (Q : Int32 → gw_H → Prop) : Nat → Int32 → Int32 → Int32 → gw_H → Prop
  | 0 => fun _ _ _ _ => False
  | n + 1 => fun x1 x2 x3 h => (((h 2 3) ≤ x3 → (∃ n_24 : Nat, wl_X6_goes_42   Q n_24 x1 x2 (0 : Int32) h)) ∧ (¬ (h 2 3) ≤ x3 → (wp_X6_hums h x3 (fun r_26 h_25 => ((r_26 = 0 → (wk_X6_goes_32  (wl_X6_goes_6   Q n) Q x2 x3 (0 : Int32) x1 h_25)) ∧ (¬ r_26 = 0 → (wk_X6_goes_32  (wl_X6_goes_6   Q n) Q x2 x3 ((1 : Int32) <<< (x3 &&& 31)) x1 h_25)))))))
set_option maxRecDepth 100000 in
set_option maxHeartbeats 4000000 in
theorem tl_X6_goes_6 {l : Launch} {ad : Nat → Nat} {X : gw_X}   {Q : Int32 → gw_H → Prop}   : ∀ (n : Nat) (x1 : Int32) (x2 : Int32) (x3 : Int32) (h : gw_H), wl_X6_goes_6   Q n x1 x2 x3 h → gw_G l vM ad cX6_goes RX6 4 (some .int) 4 90 Q X h 6 [some (.ref (ad 0)), some (.int x1), some (.int x2), some (.int x3)] [] := by
  intro n
  induction n with
  | zero => intro x1 x2 x3 h hw; exact hw.elim
  | succ n ih =>
    intro x1 x2 x3 h hw
    unfold wl_X6_goes_6 at hw
    refine gw_iload_n dX6_goes_6 rfl rfl ?_
    refine gw_aload_n dX6_goes_7 rfl rfl ?_
    refine gw_getf (k := 1) (v := .ref (ad 2)) oX6 clX6 inUX6 (Nat.le_of_ble_eq_true rfl) rfl lfX6_13 rfl dX6_goes_8 ?_
    refine gw_iconst dX6_goes_11 ic_3 ?_
    refine gw_iald am_2 in_3_73 cl_3 dX6_goes_12 ?_
    refine gw_icmp_ge (tgt := 40) dX6_goes_13 (by decide) (fun c_1 => ?_) (fun c_1 => ?_)
    · have hw := hw.1 c_1
      refine gw_iconst dX6_goes_40 ic_0 ?_
      refine gw_istore_n (ls' := [some (.ref (ad 0)), some (.int x1), some (.int x2), some (.int (0 : Int32))]) dX6_goes_41 rfl (Nat.le_of_ble_eq_true rfl) rfl ?_
      obtain ⟨n_24, hw⟩ := hw
      exact tl_X6_goes_42   n_24 x1 x2 (0 : Int32) h hw
    · have hw := hw.2 c_1
      refine gw_iload_n dX6_goes_16 rfl rfl ?_
      refine gw_aload_n dX6_goes_17 rfl rfl ?_
      refine gw_iload_n dX6_goes_18 rfl rfl ?_
      refine gw_callVi (As := [.int x3]) (rest := [.int x1]) rfl (gc_X6_hums  hw) mX6_hums lmX6_85 oX6 clX6 rfl rfl ⟨Nat.le_of_ble_eq_true rfl, Nat.le_of_ble_eq_true rfl⟩ (Nat.le_of_ble_eq_true rfl) dX6_goes_19 (fun r_26 h_25 hw => ?_)
      refine gw_if_eq (tgt := 31) dX6_goes_22 (by decide) (fun c_27 => ?_) (fun c_27 => ?_)
      · have hw := hw.1 c_27
        refine gw_iconst dX6_goes_31 ic_0 ?_
        refine gw_forget (ls' := [some (.ref (ad 0)), none, some (.int x2), some (.int x3)]) (gw_sub.s (gw_sub.n (gw_sub.s (gw_sub.s gw_sub.z)))) ?_
        exact tk_X6_goes_32   ih x2 x3 (0 : Int32) x1 h_25 hw
      · have hw := hw.2 c_27
        refine gw_iconst dX6_goes_25 ic_1 ?_
        refine gw_iload_n dX6_goes_26 rfl rfl ?_
        refine gw_ishl dX6_goes_27 ?_
        refine gw_goto (tgt := 32) dX6_goes_28 (by decide) ?_
        refine gw_forget (ls' := [some (.ref (ad 0)), none, some (.int x2), some (.int x3)]) (gw_sub.s (gw_sub.n (gw_sub.s (gw_sub.s gw_sub.z)))) ?_
        exact tk_X6_goes_32   ih x2 x3 ((1 : Int32) <<< (x3 &&& 31)) x1 h_25 hw
def wp_X6_goes (h : gw_H)  (Q : Int32 → gw_H → Prop) : Prop :=
  (∃ n_28 : Nat, wl_X6_goes_6   Q n_28 (0 : Int32) (0 : Int32) (0 : Int32) h)
set_option maxRecDepth 100000 in
set_option maxHeartbeats 4000000 in
theorem gc_X6_goes {l : Launch} {ad : Nat → Nat} {h : gw_H}  {Q : Int32 → gw_H → Prop}  (hw : wp_X6_goes h  Q) : gw_C l yX6_goes cX6_goes 4 (some .int) 4 90 vM ad [.ref (ad 0)] h Q := by
  refine gw_entry (own := RX6) [some (.ref (ad 0)), none, none, none] pl_X6 rfl rfl (Nat.le_of_ble_eq_true rfl) rfl (fun X => ?_)
  unfold wp_X6_goes at hw
  refine gw_iconst dX6_goes_0 ic_0 ?_
  refine gw_istore_n (ls' := [some (.ref (ad 0)), some (.int (0 : Int32)), none, none]) dX6_goes_1 rfl (Nat.le_of_ble_eq_true rfl) rfl ?_
  refine gw_iconst dX6_goes_2 ic_0 ?_
  refine gw_istore_n (ls' := [some (.ref (ad 0)), some (.int (0 : Int32)), some (.int (0 : Int32)), none]) dX6_goes_3 rfl (Nat.le_of_ble_eq_true rfl) rfl ?_
  refine gw_iconst dX6_goes_4 ic_0 ?_
  refine gw_istore_n (ls' := [some (.ref (ad 0)), some (.int (0 : Int32)), some (.int (0 : Int32)), some (.int (0 : Int32))]) dX6_goes_5 rfl (Nat.le_of_ble_eq_true rfl) rfl ?_
  obtain ⟨n_28, hw⟩ := hw
  exact tl_X6_goes_6   n_28 (0 : Int32) (0 : Int32) (0 : Int32) h hw
def wl_X6_goesFor_2 (p1 : Int32)  (Q : Int32 → gw_H → Prop) : Nat → Int32 → gw_H → Prop
  | 0 => fun _ _ => False
  | n + 1 => fun x2 h => ((p1 ≤ x2 → Q 0 h) ∧ (¬ p1 ≤ x2 → (wp_X6_goes h  (fun r_3 h_2 => ((wl_X6_goesFor_2 p1  Q n) (x2 + (1 : Int32)) h_2)))))
set_option maxRecDepth 100000 in
set_option maxHeartbeats 4000000 in
theorem tl_X6_goesFor_2 {l : Launch} {ad : Nat → Nat} {X : gw_X} {p1 : Int32}  {Q : Int32 → gw_H → Prop}   : ∀ (n : Nat) (x2 : Int32) (h : gw_H), wl_X6_goesFor_2 p1  Q n x2 h → gw_G l vM ad cX6_goesFor RX6 3 none 5 113 Q X h 2 [some (.ref (ad 0)), some (.int p1), some (.int x2)] [] := by
  intro n
  induction n with
  | zero => intro x2 h hw; exact hw.elim
  | succ n ih =>
    intro x2 h hw
    unfold wl_X6_goesFor_2 at hw
    refine gw_iload_n dX6_goesFor_2 rfl rfl ?_
    refine gw_iload_n dX6_goesFor_3 rfl rfl ?_
    refine gw_icmp_ge (tgt := 18) dX6_goesFor_4 (by decide) (fun c_1 => ?_) (fun c_1 => ?_)
    · have hw := hw.1 c_1
      exact gw_return hw rfl dX6_goesFor_18
    · have hw := hw.2 c_1
      refine gw_aload_n dX6_goesFor_7 rfl rfl ?_
      refine gw_callVi (As := []) (rest := []) rfl (gc_X6_goes  hw) mX6_goes lmX6_99 oX6 clX6 rfl rfl ⟨Nat.le_of_ble_eq_true rfl, Nat.le_of_ble_eq_true rfl⟩ (Nat.le_of_ble_eq_true rfl) dX6_goesFor_8 (fun r_3 h_2 hw => ?_)
      refine gw_pop dX6_goesFor_11 rfl ?_
      refine gw_iinc (ls' := [some (.ref (ad 0)), some (.int p1), some (.int (x2 + (1 : Int32)))]) dX6_goesFor_12 rfl (congrArg (fun z => x2 + z) ic_1) (Nat.le_of_ble_eq_true rfl) rfl ?_
      refine gw_goto (tgt := 2) dX6_goesFor_15 (by decide) ?_
      exact ih (x2 + (1 : Int32)) h_2 hw
def wp_X6_goesFor (h : gw_H) (p1 : Int32) (Q : Int32 → gw_H → Prop) : Prop :=
  (∃ n_4 : Nat, wl_X6_goesFor_2 p1  Q n_4 (0 : Int32) h)
set_option maxRecDepth 100000 in
set_option maxHeartbeats 4000000 in
theorem gc_X6_goesFor {l : Launch} {ad : Nat → Nat} {h : gw_H} {p1 : Int32} {Q : Int32 → gw_H → Prop}  (hw : wp_X6_goesFor h p1 Q) : gw_C l yX6_goesFor cX6_goesFor 3 none 5 113 vM ad [.ref (ad 0), .int p1] h Q := by
  refine gw_entry (own := RX6) [some (.ref (ad 0)), some (.int p1), none] pl_X6 rfl rfl (Nat.le_of_ble_eq_true rfl) rfl (fun X => ?_)
  unfold wp_X6_goesFor at hw
  refine gw_iconst dX6_goesFor_0 ic_0 ?_
  refine gw_istore_n (ls' := [some (.ref (ad 0)), some (.int p1), some (.int (0 : Int32))]) dX6_goesFor_1 rfl (Nat.le_of_ble_eq_true rfl) rfl ?_
  obtain ⟨n_4, hw⟩ := hw
  exact tl_X6_goesFor_2   n_4 (0 : Int32) h hw
def wl_X6_starts_6   (Q : Int32 → gw_H → Prop) : Nat → Int32 → gw_H → Prop
  | 0 => fun _ _ => False
  | n + 1 => fun x1 h => (((6 : Int32) ≤ x1 → Q 0 h) ∧ (¬ (6 : Int32) ≤ x1 → (vp_in x1 6 ∧ (vp_in x1 6 ∧ ((wl_X6_starts_6   Q n) (x1 + (1 : Int32)) (gw_up (gw_up h 8 x1.toNatClampNeg x1) 9 x1.toNatClampNeg x1))))))
set_option maxRecDepth 100000 in
set_option maxHeartbeats 4000000 in
theorem tl_X6_starts_6 {l : Launch} {ad : Nat → Nat} {X : gw_X}   {Q : Int32 → gw_H → Prop}   : ∀ (n : Nat) (x1 : Int32) (h : gw_H), wl_X6_starts_6   Q n x1 h → gw_G l vM ad cX6_starts RX6 2 none 2 42 Q X h 6 [some (.ref (ad 0)), some (.int x1)] [] := by
  intro n
  induction n with
  | zero => intro x1 h hw; exact hw.elim
  | succ n ih =>
    intro x1 h hw
    unfold wl_X6_starts_6 at hw
    refine gw_iload_n dX6_starts_6 rfl rfl ?_
    refine gw_bipush dX6_starts_7 bp_6 ?_
    refine gw_icmp_ge (tgt := 32) dX6_starts_9 (by decide) (fun c_2 => ?_) (fun c_2 => ?_)
    · have hw := hw.1 c_2
      exact gw_return hw rfl dX6_starts_32
    · have hw := hw.2 c_2
      refine gw_aload_n dX6_starts_12 rfl rfl ?_
      refine gw_getf (k := 8) (v := .ref (ad 8)) oX6 clX6 inUX6 (Nat.le_of_ble_eq_true rfl) rfl lfX6_31 rfl dX6_starts_13 ?_
      refine gw_iload_n dX6_starts_16 rfl rfl ?_
      refine gw_iload_n dX6_starts_17 rfl rfl ?_
      have q_4 := hw.1
      have hw := hw.2
      refine gw_iast am_8 q_4 rfl dX6_starts_18 ?_
      refine gw_aload_n dX6_starts_19 rfl rfl ?_
      refine gw_getf (k := 9) (v := .ref (ad 9)) oX6 clX6 inUX6 (Nat.le_of_ble_eq_true rfl) rfl lfX6_34 rfl dX6_starts_20 ?_
      refine gw_iload_n dX6_starts_23 rfl rfl ?_
      refine gw_iload_n dX6_starts_24 rfl rfl ?_
      have q_3 := hw.1
      have hw := hw.2
      refine gw_iast am_9 q_3 rfl dX6_starts_25 ?_
      refine gw_iinc (ls' := [some (.ref (ad 0)), some (.int (x1 + (1 : Int32)))]) dX6_starts_26 rfl (congrArg (fun z => x1 + z) ic_1) (Nat.le_of_ble_eq_true rfl) rfl ?_
      refine gw_goto (tgt := 6) dX6_starts_29 (by decide) ?_
      exact ih (x1 + (1 : Int32)) (gw_up (gw_up h 8 x1.toNatClampNeg x1) 9 x1.toNatClampNeg x1) hw
def wp_X6_starts (h : gw_H)  (Q : Int32 → gw_H → Prop) : Prop :=
  (wp_X6_begins h  (fun _ h_1 => (∃ n_5 : Nat, wl_X6_starts_6   Q n_5 (0 : Int32) h_1)))
set_option maxRecDepth 100000 in
set_option maxHeartbeats 4000000 in
theorem gc_X6_starts {l : Launch} {ad : Nat → Nat} {h : gw_H}  {Q : Int32 → gw_H → Prop}  (hw : wp_X6_starts h  Q) : gw_C l yX6_starts cX6_starts 2 none 2 42 vM ad [.ref (ad 0)] h Q := by
  refine gw_entry (own := RX6) [some (.ref (ad 0)), none] pl_X6 rfl rfl (Nat.le_of_ble_eq_true rfl) rfl (fun X => ?_)
  unfold wp_X6_starts at hw
  refine gw_aload_n dX6_starts_0 rfl rfl ?_
  refine gw_callVv (As := []) (rest := []) rfl (gc_X6_begins  hw) mX6_begins lmX6_96 oX6 clX6 rfl rfl ⟨Nat.le_of_ble_eq_true rfl, Nat.le_of_ble_eq_true rfl⟩ (Nat.le_of_ble_eq_true rfl) dX6_starts_1 (fun h_1 hw => ?_)
  refine gw_iconst dX6_starts_4 ic_0 ?_
  refine gw_istore_n (ls' := [some (.ref (ad 0)), some (.int (0 : Int32))]) dX6_starts_5 rfl (Nat.le_of_ble_eq_true rfl) rfl ?_
  obtain ⟨n_5, hw⟩ := hw
  exact tl_X6_starts_6   n_5 (0 : Int32) h_1 hw
def wp_X6_within (h : gw_H) (p1 : Int32) (p2 : Int32) (p3 : Int32) (Q : Int32 → gw_H → Prop) : Prop :=
  ((p2 ≤ p1 → ((p1 ≤ p3 → Q (0 : Int32) h) ∧ (¬ p1 ≤ p3 → Q (-6 : Int32) h))) ∧ (¬ p2 ≤ p1 → Q (-4 : Int32) h))
set_option maxRecDepth 100000 in
set_option maxHeartbeats 4000000 in
theorem gc_X6_within {l : Launch} {ad : Nat → Nat} {h : gw_H} {p1 : Int32} {p2 : Int32} {p3 : Int32} {Q : Int32 → gw_H → Prop}  (hw : wp_X6_within h p1 p2 p3 Q) : gw_C l yX6_within cX6_within 3 (some .int) 0 0 vM ad [.int p1, .int p2, .int p3] h Q := by
  refine gw_entry (own := RX6) [some (.int p1), some (.int p2), some (.int p3)] pl_X6 rfl rfl (Nat.le_of_ble_eq_true rfl) rfl (fun X => ?_)
  unfold wp_X6_within at hw
  refine gw_iload_n dX6_within_0 rfl rfl ?_
  refine gw_iload_n dX6_within_1 rfl rfl ?_
  refine gw_icmp_ge (tgt := 10) dX6_within_2 (by decide) (fun c_1 => ?_) (fun c_1 => ?_)
  · have hw := hw.1 c_1
    refine gw_iload_n dX6_within_10 rfl rfl ?_
    refine gw_iload_n dX6_within_11 rfl rfl ?_
    refine gw_icmp_le (tgt := 20) dX6_within_12 (by decide) (fun c_2 => ?_) (fun c_2 => ?_)
    · have hw := hw.1 c_2
      refine gw_iconst dX6_within_20 ic_0 ?_
      exact gw_ireturn (ty := .int) hw rfl rfl dX6_within_21
    · have hw := hw.2 c_2
      refine gw_bipush dX6_within_15 bp_m6 ?_
      refine gw_goto (tgt := 21) dX6_within_17 (by decide) ?_
      exact gw_ireturn (ty := .int) hw rfl rfl dX6_within_21
  · have hw := hw.2 c_1
    refine gw_bipush dX6_within_5 bp_m4 ?_
    refine gw_goto (tgt := 21) dX6_within_7 (by decide) ?_
    exact gw_ireturn (ty := .int) hw rfl rfl dX6_within_21
def wp_X6_wrong (h : gw_H) (p1 : Int32) (p2 : Int32) (Q : Int32 → gw_H → Prop) : Prop :=
  ((p1 = 0 → Q (-1 : Int32) h) ∧ (¬ p1 = 0 → (wp_X6_within h p2 (0 : Int32) (60 : Int32) (fun r_3 h_2 => Q r_3 h_2))))
set_option maxRecDepth 100000 in
set_option maxHeartbeats 4000000 in
theorem gc_X6_wrong {l : Launch} {ad : Nat → Nat} {h : gw_H} {p1 : Int32} {p2 : Int32} {Q : Int32 → gw_H → Prop}  (hw : wp_X6_wrong h p1 p2 Q) : gw_C l yX6_wrong cX6_wrong 3 (some .int) 1 22 vM ad [.ref (ad 0), .int p1, .int p2] h Q := by
  refine gw_entry (own := RX6) [some (.ref (ad 0)), some (.int p1), some (.int p2)] pl_X6 rfl rfl (Nat.le_of_ble_eq_true rfl) rfl (fun X => ?_)
  unfold wp_X6_wrong at hw
  refine gw_iload_n dX6_wrong_0 rfl rfl ?_
  refine gw_if_eq (tgt := 14) dX6_wrong_1 (by decide) (fun c_1 => ?_) (fun c_1 => ?_)
  · have hw := hw.1 c_1
    refine gw_iconst dX6_wrong_14 ic_m1 ?_
    exact gw_ireturn (ty := .int) hw rfl rfl dX6_wrong_15
  · have hw := hw.2 c_1
    refine gw_iload_n dX6_wrong_4 rfl rfl ?_
    refine gw_iconst dX6_wrong_5 ic_0 ?_
    refine gw_bipush dX6_wrong_6 bp_60 ?_
    refine gw_callSi (As := [.int p2, .int (0 : Int32), .int (60 : Int32)]) (rest := []) rfl (gc_X6_within  hw) mX6_within lmX6_112 rfl rfl ⟨Nat.le_of_ble_eq_true rfl, Nat.le_of_ble_eq_true rfl⟩ (Nat.le_of_ble_eq_true rfl) dX6_wrong_8 (fun r_3 h_2 hw => ?_)
    refine gw_goto (tgt := 15) dX6_wrong_11 (by decide) ?_
    exact gw_ireturn (ty := .int) hw rfl rfl dX6_wrong_15
def wk_X6_wentBy_66 (p1 : Int32) (p2 : Int32) (p3 : Int32)  (Q : Int32 → gw_H → Prop) : Int32 → gw_H → Prop :=
  fun s0 h => (wp_X6_ends h  (fun _ h_12 => Q s0 h_12))
set_option maxRecDepth 100000 in
set_option maxHeartbeats 4000000 in
theorem tk_X6_wentBy_66 {l : Launch} {ad : Nat → Nat} {X : gw_X} {p1 : Int32} {p2 : Int32} {p3 : Int32}  {Q : Int32 → gw_H → Prop}   (s0 : Int32) (h : gw_H) (hw : wk_X6_wentBy_66 p1 p2 p3  Q s0 h) : gw_G l vM ad cX6_wentBy RX6 6 (some .int) 6 135 Q X h 66 [some (.ref (ad 0)), some (.int p1), some (.int p2), some (.int p3), none, none] [.int s0] := by
  unfold wk_X6_wentBy_66 at hw
  refine gw_istore (ls' := [some (.ref (ad 0)), some (.int p1), some (.int p2), some (.int p3), none, some (.int s0)]) dX6_wentBy_66 (Nat.le_of_ble_eq_true rfl) rfl ?_
  refine gw_aload_n dX6_wentBy_68 rfl rfl ?_
  refine gw_callVv (As := []) (rest := []) rfl (gc_X6_ends  hw) mX6_ends lmX6_109 oX6 clX6 rfl rfl ⟨Nat.le_of_ble_eq_true rfl, Nat.le_of_ble_eq_true rfl⟩ (Nat.le_of_ble_eq_true rfl) dX6_wentBy_69 (fun h_12 hw => ?_)
  refine gw_iload dX6_wentBy_72 rfl ?_
  exact gw_ireturn (ty := .int) hw rfl rfl dX6_wentBy_74
def wp_X6_wentBy (h : gw_H) (p1 : Int32) (p2 : Int32) (p3 : Int32) (Q : Int32 → gw_H → Prop) : Prop :=
  (wp_X6_isHead h p1 (fun r_2 h_1 => (wp_X6_wrong h_1 r_2 p2 (fun r_4 h_3 => ((r_4 = 0 → (wp_X6_starts h_3  (fun _ h_6 => (wp_X6_goesFor h_6 p2 (fun _ h_7 => (wp_X6_at h_7 p1 (3 : Int32) (fun r_9 h_8 => ((0 ≤ r_9 → ((p3 = 0 → (vp_in p1 6 ∧ (wk_X6_wentBy_66 p1 p2 p3  Q (h_8 8 p1.toNatClampNeg) h_8))) ∧ (¬ p3 = 0 → (vp_in p1 6 ∧ (wk_X6_wentBy_66 p1 p2 p3  Q (h_8 9 p1.toNatClampNeg) h_8))))) ∧ (¬ 0 ≤ r_9 → (wk_X6_wentBy_66 p1 p2 p3  Q (-9 : Int32) h_8)))))))))) ∧ (¬ r_4 = 0 → (wp_X6_refuse h_3 r_4 (fun r_16 h_15 => Q r_16 h_15))))))))
set_option maxRecDepth 100000 in
set_option maxHeartbeats 4000000 in
theorem gc_X6_wentBy {l : Launch} {ad : Nat → Nat} {h : gw_H} {p1 : Int32} {p2 : Int32} {p3 : Int32} {Q : Int32 → gw_H → Prop}  (hw : wp_X6_wentBy h p1 p2 p3 Q) : gw_C l yX6_wentBy cX6_wentBy 6 (some .int) 6 135 vM ad [.ref (ad 0), .int p1, .int p2, .int p3] h Q := by
  refine gw_entry (own := RX6) [some (.ref (ad 0)), some (.int p1), some (.int p2), some (.int p3), none, none] pl_X6 rfl rfl (Nat.le_of_ble_eq_true rfl) rfl (fun X => ?_)
  unfold wp_X6_wentBy at hw
  refine gw_aload_n dX6_wentBy_0 rfl rfl ?_
  refine gw_aload_n dX6_wentBy_1 rfl rfl ?_
  refine gw_iload_n dX6_wentBy_2 rfl rfl ?_
  refine gw_callVi (As := [.int p1]) (rest := [.ref (ad 0)]) rfl (gc_X6_isHead  hw) mX6_isHead lmX6_144 oX6 clX6 rfl rfl ⟨Nat.le_of_ble_eq_true rfl, Nat.le_of_ble_eq_true rfl⟩ (Nat.le_of_ble_eq_true rfl) dX6_wentBy_3 (fun r_2 h_1 hw => ?_)
  refine gw_iload_n dX6_wentBy_6 rfl rfl ?_
  refine gw_callVi (As := [.int r_2, .int p2]) (rest := []) rfl (gc_X6_wrong  hw) mX6_wrong lmX6_163 oX6 clX6 rfl rfl ⟨Nat.le_of_ble_eq_true rfl, Nat.le_of_ble_eq_true rfl⟩ (Nat.le_of_ble_eq_true rfl) dX6_wentBy_7 (fun r_4 h_3 hw => ?_)
  refine gw_istore (ls' := [some (.ref (ad 0)), some (.int p1), some (.int p2), some (.int p3), some (.int r_4), none]) dX6_wentBy_10 (Nat.le_of_ble_eq_true rfl) rfl ?_
  refine gw_iload dX6_wentBy_12 rfl ?_
  refine gw_if_eq (tgt := 24) dX6_wentBy_14 (by decide) (fun c_5 => ?_) (fun c_5 => ?_)
  · have hw := hw.1 c_5
    refine gw_aload_n dX6_wentBy_24 rfl rfl ?_
    refine gw_callVv (As := []) (rest := []) rfl (gc_X6_starts  hw) mX6_starts lmX6_170 oX6 clX6 rfl rfl ⟨Nat.le_of_ble_eq_true rfl, Nat.le_of_ble_eq_true rfl⟩ (Nat.le_of_ble_eq_true rfl) dX6_wentBy_25 (fun h_6 hw => ?_)
    refine gw_aload_n dX6_wentBy_28 rfl rfl ?_
    refine gw_iload_n dX6_wentBy_29 rfl rfl ?_
    refine gw_callVv (As := [.int p2]) (rest := []) rfl (gc_X6_goesFor  hw) mX6_goesFor lmX6_103 oX6 clX6 rfl rfl ⟨Nat.le_of_ble_eq_true rfl, Nat.le_of_ble_eq_true rfl⟩ (Nat.le_of_ble_eq_true rfl) dX6_wentBy_30 (fun h_7 hw => ?_)
    refine gw_aload_n dX6_wentBy_33 rfl rfl ?_
    refine gw_iload_n dX6_wentBy_34 rfl rfl ?_
    refine gw_iconst dX6_wentBy_35 ic_3 ?_
    refine gw_callVi (As := [.int p1, .int (3 : Int32)]) (rest := []) rfl (gc_X6_at  hw) mX6_at lmX6_61 oX6 clX6 rfl rfl ⟨Nat.le_of_ble_eq_true rfl, Nat.le_of_ble_eq_true rfl⟩ (Nat.le_of_ble_eq_true rfl) dX6_wentBy_36 (fun r_9 h_8 hw => ?_)
    refine gw_if_ge (tgt := 47) dX6_wentBy_39 (by decide) (fun c_10 => ?_) (fun c_10 => ?_)
    · have hw := hw.1 c_10
      refine gw_iload_n dX6_wentBy_47 rfl rfl ?_
      refine gw_if_eq (tgt := 60) dX6_wentBy_48 (by decide) (fun c_11 => ?_) (fun c_11 => ?_)
      · have hw := hw.1 c_11
        refine gw_aload_n dX6_wentBy_60 rfl rfl ?_
        refine gw_getf (k := 8) (v := .ref (ad 8)) oX6 clX6 inUX6 (Nat.le_of_ble_eq_true rfl) rfl lfX6_31 rfl dX6_wentBy_61 ?_
        refine gw_iload_n dX6_wentBy_64 rfl rfl ?_
        have q_13 := hw.1
        have hw := hw.2
        refine gw_iald am_8 q_13 rfl dX6_wentBy_65 ?_
        refine gw_forget (ls' := [some (.ref (ad 0)), some (.int p1), some (.int p2), some (.int p3), none, none]) (gw_sub.s (gw_sub.s (gw_sub.s (gw_sub.s (gw_sub.n (gw_sub.n gw_sub.z)))))) ?_
        exact tk_X6_wentBy_66   (h_8 8 p1.toNatClampNeg) h_8 hw
      · have hw := hw.2 c_11
        refine gw_aload_n dX6_wentBy_51 rfl rfl ?_
        refine gw_getf (k := 9) (v := .ref (ad 9)) oX6 clX6 inUX6 (Nat.le_of_ble_eq_true rfl) rfl lfX6_34 rfl dX6_wentBy_52 ?_
        refine gw_iload_n dX6_wentBy_55 rfl rfl ?_
        have q_14 := hw.1
        have hw := hw.2
        refine gw_iald am_9 q_14 rfl dX6_wentBy_56 ?_
        refine gw_goto (tgt := 66) dX6_wentBy_57 (by decide) ?_
        refine gw_forget (ls' := [some (.ref (ad 0)), some (.int p1), some (.int p2), some (.int p3), none, none]) (gw_sub.s (gw_sub.s (gw_sub.s (gw_sub.s (gw_sub.n (gw_sub.n gw_sub.z)))))) ?_
        exact tk_X6_wentBy_66   (h_8 9 p1.toNatClampNeg) h_8 hw
    · have hw := hw.2 c_10
      refine gw_bipush dX6_wentBy_42 bp_m9 ?_
      refine gw_goto (tgt := 66) dX6_wentBy_44 (by decide) ?_
      refine gw_forget (ls' := [some (.ref (ad 0)), some (.int p1), some (.int p2), some (.int p3), none, none]) (gw_sub.s (gw_sub.s (gw_sub.s (gw_sub.s (gw_sub.n (gw_sub.n gw_sub.z)))))) ?_
      exact tk_X6_wentBy_66   (-9 : Int32) h_8 hw
  · have hw := hw.2 c_5
    refine gw_aload_n dX6_wentBy_17 rfl rfl ?_
    refine gw_iload dX6_wentBy_18 rfl ?_
    refine gw_callVi (As := [.int r_4]) (rest := []) rfl (gc_X6_refuse  hw) mX6_refuse lmX6_120 oX6 clX6 rfl rfl ⟨Nat.le_of_ble_eq_true rfl, Nat.le_of_ble_eq_true rfl⟩ (Nat.le_of_ble_eq_true rfl) dX6_wentBy_20 (fun r_16 h_15 hw => ?_)
    exact gw_ireturn (ty := .int) hw rfl rfl dX6_wentBy_23
def wp_X6_first (h : gw_H) (p1 : Int32) (p2 : Int32) (Q : Int32 → gw_H → Prop) : Prop :=
  (wp_X6_wentBy h p1 p2 (1 : Int32) (fun r_2 h_1 => Q r_2 h_1))
set_option maxRecDepth 100000 in
set_option maxHeartbeats 4000000 in
theorem gc_X6_first {l : Launch} {ad : Nat → Nat} {h : gw_H} {p1 : Int32} {p2 : Int32} {Q : Int32 → gw_H → Prop}  (hw : wp_X6_first h p1 p2 Q) : gw_C l yX6_first cX6_first 3 (some .int) 7 160 vM ad [.ref (ad 0), .int p1, .int p2] h Q := by
  refine gw_entry (own := RX6) [some (.ref (ad 0)), some (.int p1), some (.int p2)] pl_X6 rfl rfl (Nat.le_of_ble_eq_true rfl) rfl (fun X => ?_)
  unfold wp_X6_first at hw
  refine gw_aload_n dX6_first_0 rfl rfl ?_
  refine gw_iload_n dX6_first_1 rfl rfl ?_
  refine gw_iload_n dX6_first_2 rfl rfl ?_
  refine gw_iconst dX6_first_3 ic_1 ?_
  refine gw_callVi (As := [.int p1, .int p2, .int (1 : Int32)]) (rest := []) rfl (gc_X6_wentBy  hw) mX6_wentBy lmX6_173 oX6 clX6 rfl rfl ⟨Nat.le_of_ble_eq_true rfl, Nat.le_of_ble_eq_true rfl⟩ (Nat.le_of_ble_eq_true rfl) dX6_first_4 (fun r_2 h_1 hw => ?_)
  exact gw_ireturn (ty := .int) hw rfl rfl dX6_first_7
def wp_X6_from (h : gw_H) (p1 : Int32) (p2 : Int32) (Q : Int32 → gw_H → Prop) : Prop :=
  (wp_X6_wentBy h p1 p2 (0 : Int32) (fun r_2 h_1 => Q r_2 h_1))
set_option maxRecDepth 100000 in
set_option maxHeartbeats 4000000 in
theorem gc_X6_from {l : Launch} {ad : Nat → Nat} {h : gw_H} {p1 : Int32} {p2 : Int32} {Q : Int32 → gw_H → Prop}  (hw : wp_X6_from h p1 p2 Q) : gw_C l yX6_from cX6_from 3 (some .int) 7 160 vM ad [.ref (ad 0), .int p1, .int p2] h Q := by
  refine gw_entry (own := RX6) [some (.ref (ad 0)), some (.int p1), some (.int p2)] pl_X6 rfl rfl (Nat.le_of_ble_eq_true rfl) rfl (fun X => ?_)
  unfold wp_X6_from at hw
  refine gw_aload_n dX6_from_0 rfl rfl ?_
  refine gw_iload_n dX6_from_1 rfl rfl ?_
  refine gw_iload_n dX6_from_2 rfl rfl ?_
  refine gw_iconst dX6_from_3 ic_0 ?_
  refine gw_callVi (As := [.int p1, .int p2, .int (0 : Int32)]) (rest := []) rfl (gc_X6_wentBy  hw) mX6_wentBy lmX6_173 oX6 clX6 rfl rfl ⟨Nat.le_of_ble_eq_true rfl, Nat.le_of_ble_eq_true rfl⟩ (Nat.le_of_ble_eq_true rfl) dX6_from_4 (fun r_2 h_1 hw => ?_)
  exact gw_ireturn (ty := .int) hw rfl rfl dX6_from_7
def wk_X6_get_21 (p1 : Int32) (p2 : Int32)  (Q : Int32 → gw_H → Prop) : gw_H → Prop :=
  fun h => (wp_X6_refuse h (-1 : Int32) (fun r_5 h_4 => Q r_5 h_4))
set_option maxRecDepth 100000 in
set_option maxHeartbeats 4000000 in
theorem tk_X6_get_21 {l : Launch} {ad : Nat → Nat} {X : gw_X} {p1 : Int32} {p2 : Int32}  {Q : Int32 → gw_H → Prop}    (h : gw_H) (hw : wk_X6_get_21 p1 p2  Q h) : gw_G l vM ad cX6_get RX6 4 (some .int) 3 67 Q X h 21 [some (.ref (ad 0)), some (.int p1), some (.int p2), none] [] := by
  unfold wk_X6_get_21 at hw
  refine gw_aload_n dX6_get_21 rfl rfl ?_
  refine gw_iconst dX6_get_22 ic_m1 ?_
  refine gw_callVi (As := [.int (-1 : Int32)]) (rest := []) rfl (gc_X6_refuse  hw) mX6_refuse lmX6_120 oX6 clX6 rfl rfl ⟨Nat.le_of_ble_eq_true rfl, Nat.le_of_ble_eq_true rfl⟩ (Nat.le_of_ble_eq_true rfl) dX6_get_23 (fun r_5 h_4 hw => ?_)
  exact gw_ireturn (ty := .int) hw rfl rfl dX6_get_26
def wk_X6_get_27 (p1 : Int32) (p2 : Int32)  (Q : Int32 → gw_H → Prop) : gw_H → Prop :=
  fun h => (wp_X6_at h p1 (3 : Int32) (fun r_8 h_7 => (wp_X6_gets h_7 p1 p2 (fun _ h_9 => Q r_8 h_9))))
set_option maxRecDepth 100000 in
set_option maxHeartbeats 4000000 in
theorem tk_X6_get_27 {l : Launch} {ad : Nat → Nat} {X : gw_X} {p1 : Int32} {p2 : Int32}  {Q : Int32 → gw_H → Prop}    (h : gw_H) (hw : wk_X6_get_27 p1 p2  Q h) : gw_G l vM ad cX6_get RX6 4 (some .int) 3 67 Q X h 27 [some (.ref (ad 0)), some (.int p1), some (.int p2), none] [] := by
  unfold wk_X6_get_27 at hw
  refine gw_aload_n dX6_get_27 rfl rfl ?_
  refine gw_iload_n dX6_get_28 rfl rfl ?_
  refine gw_iconst dX6_get_29 ic_3 ?_
  refine gw_callVi (As := [.int p1, .int (3 : Int32)]) (rest := []) rfl (gc_X6_at  hw) mX6_at lmX6_61 oX6 clX6 rfl rfl ⟨Nat.le_of_ble_eq_true rfl, Nat.le_of_ble_eq_true rfl⟩ (Nat.le_of_ble_eq_true rfl) dX6_get_30 (fun r_8 h_7 hw => ?_)
  refine gw_istore_n (ls' := [some (.ref (ad 0)), some (.int p1), some (.int p2), some (.int r_8)]) dX6_get_33 rfl (Nat.le_of_ble_eq_true rfl) rfl ?_
  refine gw_aload_n dX6_get_34 rfl rfl ?_
  refine gw_iload_n dX6_get_35 rfl rfl ?_
  refine gw_iload_n dX6_get_36 rfl rfl ?_
  refine gw_callVv (As := [.int p1, .int p2]) (rest := []) rfl (gc_X6_gets  hw) mX6_gets lmX6_81 oX6 clX6 rfl rfl ⟨Nat.le_of_ble_eq_true rfl, Nat.le_of_ble_eq_true rfl⟩ (Nat.le_of_ble_eq_true rfl) dX6_get_37 (fun h_9 hw => ?_)
  refine gw_iload_n dX6_get_40 rfl rfl ?_
  exact gw_ireturn (ty := .int) hw rfl rfl dX6_get_41
def wp_X6_get (h : gw_H) (p1 : Int32) (p2 : Int32) (Q : Int32 → gw_H → Prop) : Prop :=
  (wp_X6_isHead h p1 (fun r_2 h_1 => ((r_2 = 0 → (wk_X6_get_21 p1 p2  Q h_1)) ∧ (¬ r_2 = 0 → ((p2 = (-1 : Int32) → (wk_X6_get_27 p1 p2  Q h_1)) ∧ (¬ p2 = (-1 : Int32) → (wp_X6_isSong h_1 p2 (fun r_11 h_10 => ((¬ r_11 = 0 → (wk_X6_get_27 p1 p2  Q h_10)) ∧ (r_11 = 0 → (wk_X6_get_21 p1 p2  Q h_10)))))))))))
set_option maxRecDepth 100000 in
set_option maxHeartbeats 4000000 in
theorem gc_X6_get {l : Launch} {ad : Nat → Nat} {h : gw_H} {p1 : Int32} {p2 : Int32} {Q : Int32 → gw_H → Prop}  (hw : wp_X6_get h p1 p2 Q) : gw_C l yX6_get cX6_get 4 (some .int) 3 67 vM ad [.ref (ad 0), .int p1, .int p2] h Q := by
  refine gw_entry (own := RX6) [some (.ref (ad 0)), some (.int p1), some (.int p2), none] pl_X6 rfl rfl (Nat.le_of_ble_eq_true rfl) rfl (fun X => ?_)
  unfold wp_X6_get at hw
  refine gw_aload_n dX6_get_0 rfl rfl ?_
  refine gw_iload_n dX6_get_1 rfl rfl ?_
  refine gw_callVi (As := [.int p1]) (rest := []) rfl (gc_X6_isHead  hw) mX6_isHead lmX6_144 oX6 clX6 rfl rfl ⟨Nat.le_of_ble_eq_true rfl, Nat.le_of_ble_eq_true rfl⟩ (Nat.le_of_ble_eq_true rfl) dX6_get_2 (fun r_2 h_1 hw => ?_)
  refine gw_if_eq (tgt := 21) dX6_get_5 (by decide) (fun c_3 => ?_) (fun c_3 => ?_)
  · have hw := hw.1 c_3
    exact tk_X6_get_21   h_1 hw
  · have hw := hw.2 c_3
    refine gw_iload_n dX6_get_8 rfl rfl ?_
    refine gw_iconst dX6_get_9 ic_m1 ?_
    refine gw_icmp_eq (tgt := 27) dX6_get_10 (by decide) (fun c_6 => ?_) (fun c_6 => ?_)
    · have hw := hw.1 c_6
      exact tk_X6_get_27   h_1 hw
    · have hw := hw.2 c_6
      refine gw_aload_n dX6_get_13 rfl rfl ?_
      refine gw_iload_n dX6_get_14 rfl rfl ?_
      refine gw_callVi (As := [.int p2]) (rest := []) rfl (gc_X6_isSong  hw) mX6_isSong lmX6_147 oX6 clX6 rfl rfl ⟨Nat.le_of_ble_eq_true rfl, Nat.le_of_ble_eq_true rfl⟩ (Nat.le_of_ble_eq_true rfl) dX6_get_15 (fun r_11 h_10 hw => ?_)
      refine gw_if_ne (tgt := 27) dX6_get_18 (by decide) (fun c_12 => ?_) (fun c_12 => ?_)
      · have hw := hw.1 c_12
        exact tk_X6_get_27   h_10 hw
      · have hw := hw.2 c_12
        exact tk_X6_get_21   h_10 hw
def wk_X6_go_16 (p1 : Int32) (p2 : Int32)  (Q : Int32 → gw_H → Prop) : gw_H → Prop :=
  fun h => (wp_X6_refuse h (-1 : Int32) (fun r_5 h_4 => Q r_5 h_4))
set_option maxRecDepth 100000 in
set_option maxHeartbeats 4000000 in
theorem tk_X6_go_16 {l : Launch} {ad : Nat → Nat} {X : gw_X} {p1 : Int32} {p2 : Int32}  {Q : Int32 → gw_H → Prop}    (h : gw_H) (hw : wk_X6_go_16 p1 p2  Q h) : gw_G l vM ad cX6_go RX6 4 (some .int) 2 42 Q X h 16 [some (.ref (ad 0)), some (.int p1), some (.int p2), none] [] := by
  unfold wk_X6_go_16 at hw
  refine gw_aload_n dX6_go_16 rfl rfl ?_
  refine gw_iconst dX6_go_17 ic_m1 ?_
  refine gw_callVi (As := [.int (-1 : Int32)]) (rest := []) rfl (gc_X6_refuse  hw) mX6_refuse lmX6_120 oX6 clX6 rfl rfl ⟨Nat.le_of_ble_eq_true rfl, Nat.le_of_ble_eq_true rfl⟩ (Nat.le_of_ble_eq_true rfl) dX6_go_18 (fun r_5 h_4 hw => ?_)
  exact gw_ireturn (ty := .int) hw rfl rfl dX6_go_21
def wp_X6_go (h : gw_H) (p1 : Int32) (p2 : Int32) (Q : Int32 → gw_H → Prop) : Prop :=
  (wp_X6_isHead h p1 (fun r_2 h_1 => ((r_2 = 0 → (wk_X6_go_16 p1 p2  Q h_1)) ∧ (¬ r_2 = 0 → (wp_X6_isIn h_1 p2 (5 : Int32) (fun r_7 h_6 => ((¬ r_7 = 0 → (wp_X6_at h_6 p1 (1 : Int32) (fun r_10 h_9 => (wp_X6_puts h_9 p1 (1 : Int32) p2 (fun _ h_11 => Q r_10 h_11))))) ∧ (r_7 = 0 → (wk_X6_go_16 p1 p2  Q h_6)))))))))
set_option maxRecDepth 100000 in
set_option maxHeartbeats 4000000 in
theorem gc_X6_go {l : Launch} {ad : Nat → Nat} {h : gw_H} {p1 : Int32} {p2 : Int32} {Q : Int32 → gw_H → Prop}  (hw : wp_X6_go h p1 p2 Q) : gw_C l yX6_go cX6_go 4 (some .int) 2 42 vM ad [.ref (ad 0), .int p1, .int p2] h Q := by
  refine gw_entry (own := RX6) [some (.ref (ad 0)), some (.int p1), some (.int p2), none] pl_X6 rfl rfl (Nat.le_of_ble_eq_true rfl) rfl (fun X => ?_)
  unfold wp_X6_go at hw
  refine gw_aload_n dX6_go_0 rfl rfl ?_
  refine gw_iload_n dX6_go_1 rfl rfl ?_
  refine gw_callVi (As := [.int p1]) (rest := []) rfl (gc_X6_isHead  hw) mX6_isHead lmX6_144 oX6 clX6 rfl rfl ⟨Nat.le_of_ble_eq_true rfl, Nat.le_of_ble_eq_true rfl⟩ (Nat.le_of_ble_eq_true rfl) dX6_go_2 (fun r_2 h_1 hw => ?_)
  refine gw_if_eq (tgt := 16) dX6_go_5 (by decide) (fun c_3 => ?_) (fun c_3 => ?_)
  · have hw := hw.1 c_3
    exact tk_X6_go_16   h_1 hw
  · have hw := hw.2 c_3
    refine gw_iload_n dX6_go_8 rfl rfl ?_
    refine gw_iconst dX6_go_9 ic_5 ?_
    refine gw_callSi (As := [.int p2, .int (5 : Int32)]) (rest := []) rfl (gc_X6_isIn  hw) mX6_isIn lmX6_53 rfl rfl ⟨Nat.le_of_ble_eq_true rfl, Nat.le_of_ble_eq_true rfl⟩ (Nat.le_of_ble_eq_true rfl) dX6_go_10 (fun r_7 h_6 hw => ?_)
    refine gw_if_ne (tgt := 22) dX6_go_13 (by decide) (fun c_8 => ?_) (fun c_8 => ?_)
    · have hw := hw.1 c_8
      refine gw_aload_n dX6_go_22 rfl rfl ?_
      refine gw_iload_n dX6_go_23 rfl rfl ?_
      refine gw_iconst dX6_go_24 ic_1 ?_
      refine gw_callVi (As := [.int p1, .int (1 : Int32)]) (rest := []) rfl (gc_X6_at  hw) mX6_at lmX6_61 oX6 clX6 rfl rfl ⟨Nat.le_of_ble_eq_true rfl, Nat.le_of_ble_eq_true rfl⟩ (Nat.le_of_ble_eq_true rfl) dX6_go_25 (fun r_10 h_9 hw => ?_)
      refine gw_istore_n (ls' := [some (.ref (ad 0)), some (.int p1), some (.int p2), some (.int r_10)]) dX6_go_28 rfl (Nat.le_of_ble_eq_true rfl) rfl ?_
      refine gw_aload_n dX6_go_29 rfl rfl ?_
      refine gw_iload_n dX6_go_30 rfl rfl ?_
      refine gw_iconst dX6_go_31 ic_1 ?_
      refine gw_iload_n dX6_go_32 rfl rfl ?_
      refine gw_callVv (As := [.int p1, .int (1 : Int32), .int p2]) (rest := []) rfl (gc_X6_puts  hw) mX6_puts lmX6_64 oX6 clX6 rfl rfl ⟨Nat.le_of_ble_eq_true rfl, Nat.le_of_ble_eq_true rfl⟩ (Nat.le_of_ble_eq_true rfl) dX6_go_33 (fun h_11 hw => ?_)
      refine gw_iload_n dX6_go_36 rfl rfl ?_
      exact gw_ireturn (ty := .int) hw rfl rfl dX6_go_37
    · have hw := hw.2 c_8
      exact tk_X6_go_16   h_6 hw
def wp_X6_haveBehind (h : gw_H) (p1 : Int32) (p2 : Int32) (Q : Int32 → gw_H → Prop) : Prop :=
  (wp_X6_goesFor h p2 (fun _ h_1 => (wp_X6_haveIt h_1 p1 (fun r_3 h_2 => (wp_X6_ends h_2  (fun _ h_4 => Q r_3 h_4))))))
set_option maxRecDepth 100000 in
set_option maxHeartbeats 4000000 in
theorem gc_X6_haveBehind {l : Launch} {ad : Nat → Nat} {h : gw_H} {p1 : Int32} {p2 : Int32} {Q : Int32 → gw_H → Prop}  (hw : wp_X6_haveBehind h p1 p2 Q) : gw_C l yX6_haveBehind cX6_haveBehind 4 (some .int) 6 135 vM ad [.ref (ad 0), .int p1, .int p2] h Q := by
  refine gw_entry (own := RX6) [some (.ref (ad 0)), some (.int p1), some (.int p2), none] pl_X6 rfl rfl (Nat.le_of_ble_eq_true rfl) rfl (fun X => ?_)
  unfold wp_X6_haveBehind at hw
  refine gw_aload_n dX6_haveBehind_0 rfl rfl ?_
  refine gw_iload_n dX6_haveBehind_1 rfl rfl ?_
  refine gw_callVv (As := [.int p2]) (rest := []) rfl (gc_X6_goesFor  hw) mX6_goesFor lmX6_103 oX6 clX6 rfl rfl ⟨Nat.le_of_ble_eq_true rfl, Nat.le_of_ble_eq_true rfl⟩ (Nat.le_of_ble_eq_true rfl) dX6_haveBehind_2 (fun h_1 hw => ?_)
  refine gw_aload_n dX6_haveBehind_5 rfl rfl ?_
  refine gw_iload_n dX6_haveBehind_6 rfl rfl ?_
  refine gw_callVi (As := [.int p1]) (rest := []) rfl (gc_X6_haveIt  hw) mX6_haveIt lmX6_106 oX6 clX6 rfl rfl ⟨Nat.le_of_ble_eq_true rfl, Nat.le_of_ble_eq_true rfl⟩ (Nat.le_of_ble_eq_true rfl) dX6_haveBehind_7 (fun r_3 h_2 hw => ?_)
  refine gw_istore_n (ls' := [some (.ref (ad 0)), some (.int p1), some (.int p2), some (.int r_3)]) dX6_haveBehind_10 rfl (Nat.le_of_ble_eq_true rfl) rfl ?_
  refine gw_aload_n dX6_haveBehind_11 rfl rfl ?_
  refine gw_callVv (As := []) (rest := []) rfl (gc_X6_ends  hw) mX6_ends lmX6_109 oX6 clX6 rfl rfl ⟨Nat.le_of_ble_eq_true rfl, Nat.le_of_ble_eq_true rfl⟩ (Nat.le_of_ble_eq_true rfl) dX6_haveBehind_12 (fun h_4 hw => ?_)
  refine gw_iload_n dX6_haveBehind_15 rfl rfl ?_
  exact gw_ireturn (ty := .int) hw rfl rfl dX6_haveBehind_16
def wk_X6_have_19 (p1 : Int32) (p2 : Int32)  (Q : Int32 → gw_H → Prop) : Int32 → gw_H → Prop :=
  fun s0 h => (wp_X6_wrong h s0 p2 (fun r_3 h_2 => ((r_3 = 0 → (wp_X6_begins h_2  (fun _ h_5 => (wp_X6_haveBehind h_5 p1 p2 (fun r_7 h_6 => Q r_7 h_6))))) ∧ (¬ r_3 = 0 → (wp_X6_refuse h_2 r_3 (fun r_9 h_8 => Q r_9 h_8))))))
set_option maxRecDepth 100000 in
set_option maxHeartbeats 4000000 in
theorem tk_X6_have_19 {l : Launch} {ad : Nat → Nat} {X : gw_X} {p1 : Int32} {p2 : Int32}  {Q : Int32 → gw_H → Prop}   (s0 : Int32) (h : gw_H) (hw : wk_X6_have_19 p1 p2  Q s0 h) : gw_G l vM ad cX6_have RX6 4 (some .int) 7 158 Q X h 19 [some (.ref (ad 0)), some (.int p1), some (.int p2), none] [.int s0, .ref (ad 0)] := by
  unfold wk_X6_have_19 at hw
  refine gw_iload_n dX6_have_19 rfl rfl ?_
  refine gw_callVi (As := [.int s0, .int p2]) (rest := []) rfl (gc_X6_wrong  hw) mX6_wrong lmX6_163 oX6 clX6 rfl rfl ⟨Nat.le_of_ble_eq_true rfl, Nat.le_of_ble_eq_true rfl⟩ (Nat.le_of_ble_eq_true rfl) dX6_have_20 (fun r_3 h_2 hw => ?_)
  refine gw_istore_n (ls' := [some (.ref (ad 0)), some (.int p1), some (.int p2), some (.int r_3)]) dX6_have_23 rfl (Nat.le_of_ble_eq_true rfl) rfl ?_
  refine gw_iload_n dX6_have_24 rfl rfl ?_
  refine gw_if_eq (tgt := 34) dX6_have_25 (by decide) (fun c_4 => ?_) (fun c_4 => ?_)
  · have hw := hw.1 c_4
    refine gw_aload_n dX6_have_34 rfl rfl ?_
    refine gw_callVv (As := []) (rest := []) rfl (gc_X6_begins  hw) mX6_begins lmX6_96 oX6 clX6 rfl rfl ⟨Nat.le_of_ble_eq_true rfl, Nat.le_of_ble_eq_true rfl⟩ (Nat.le_of_ble_eq_true rfl) dX6_have_35 (fun h_5 hw => ?_)
    refine gw_aload_n dX6_have_38 rfl rfl ?_
    refine gw_iload_n dX6_have_39 rfl rfl ?_
    refine gw_iload_n dX6_have_40 rfl rfl ?_
    refine gw_callVi (As := [.int p1, .int p2]) (rest := []) rfl (gc_X6_haveBehind  hw) mX6_haveBehind lmX6_167 oX6 clX6 rfl rfl ⟨Nat.le_of_ble_eq_true rfl, Nat.le_of_ble_eq_true rfl⟩ (Nat.le_of_ble_eq_true rfl) dX6_have_41 (fun r_7 h_6 hw => ?_)
    exact gw_ireturn (ty := .int) hw rfl rfl dX6_have_44
  · have hw := hw.2 c_4
    refine gw_aload_n dX6_have_28 rfl rfl ?_
    refine gw_iload_n dX6_have_29 rfl rfl ?_
    refine gw_callVi (As := [.int r_3]) (rest := []) rfl (gc_X6_refuse  hw) mX6_refuse lmX6_120 oX6 clX6 rfl rfl ⟨Nat.le_of_ble_eq_true rfl, Nat.le_of_ble_eq_true rfl⟩ (Nat.le_of_ble_eq_true rfl) dX6_have_30 (fun r_9 h_8 hw => ?_)
    exact gw_ireturn (ty := .int) hw rfl rfl dX6_have_33
def wk_X6_have_14 (p1 : Int32) (p2 : Int32)  (Q : Int32 → gw_H → Prop) : gw_H → Prop :=
  fun h => (wk_X6_have_19 p1 p2  Q (1 : Int32) h)
set_option maxRecDepth 100000 in
set_option maxHeartbeats 4000000 in
theorem tk_X6_have_14 {l : Launch} {ad : Nat → Nat} {X : gw_X} {p1 : Int32} {p2 : Int32}  {Q : Int32 → gw_H → Prop}    (h : gw_H) (hw : wk_X6_have_14 p1 p2  Q h) : gw_G l vM ad cX6_have RX6 4 (some .int) 7 158 Q X h 14 [some (.ref (ad 0)), some (.int p1), some (.int p2), none] [.ref (ad 0)] := by
  unfold wk_X6_have_14 at hw
  refine gw_iconst dX6_have_14 ic_1 ?_
  refine gw_goto (tgt := 19) dX6_have_15 (by decide) ?_
  exact tk_X6_have_19   (1 : Int32) h hw
def wp_X6_have (h : gw_H) (p1 : Int32) (p2 : Int32) (Q : Int32 → gw_H → Prop) : Prop :=
  ((p1 = (-1 : Int32) → (wk_X6_have_14 p1 p2  Q h)) ∧ (¬ p1 = (-1 : Int32) → (wp_X6_isSong h p1 (fun r_11 h_10 => ((r_11 = 0 → (wk_X6_have_19 p1 p2  Q (0 : Int32) h_10)) ∧ (¬ r_11 = 0 → (wk_X6_have_14 p1 p2  Q h_10)))))))
set_option maxRecDepth 100000 in
set_option maxHeartbeats 4000000 in
theorem gc_X6_have {l : Launch} {ad : Nat → Nat} {h : gw_H} {p1 : Int32} {p2 : Int32} {Q : Int32 → gw_H → Prop}  (hw : wp_X6_have h p1 p2 Q) : gw_C l yX6_have cX6_have 4 (some .int) 7 158 vM ad [.ref (ad 0), .int p1, .int p2] h Q := by
  refine gw_entry (own := RX6) [some (.ref (ad 0)), some (.int p1), some (.int p2), none] pl_X6 rfl rfl (Nat.le_of_ble_eq_true rfl) rfl (fun X => ?_)
  unfold wp_X6_have at hw
  refine gw_aload_n dX6_have_0 rfl rfl ?_
  refine gw_iload_n dX6_have_1 rfl rfl ?_
  refine gw_iconst dX6_have_2 ic_m1 ?_
  refine gw_icmp_eq (tgt := 14) dX6_have_3 (by decide) (fun c_1 => ?_) (fun c_1 => ?_)
  · have hw := hw.1 c_1
    exact tk_X6_have_14   h hw
  · have hw := hw.2 c_1
    refine gw_aload_n dX6_have_6 rfl rfl ?_
    refine gw_iload_n dX6_have_7 rfl rfl ?_
    refine gw_callVi (As := [.int p1]) (rest := [.ref (ad 0)]) rfl (gc_X6_isSong  hw) mX6_isSong lmX6_147 oX6 clX6 rfl rfl ⟨Nat.le_of_ble_eq_true rfl, Nat.le_of_ble_eq_true rfl⟩ (Nat.le_of_ble_eq_true rfl) dX6_have_8 (fun r_11 h_10 hw => ?_)
    refine gw_if_eq (tgt := 18) dX6_have_11 (by decide) (fun c_12 => ?_) (fun c_12 => ?_)
    · have hw := hw.1 c_12
      refine gw_iconst dX6_have_18 ic_0 ?_
      exact tk_X6_have_19   (0 : Int32) h_10 hw
    · have hw := hw.2 c_12
      exact tk_X6_have_14   h_10 hw
def wp_X6_head (h : gw_H) (p1 : Int32) (p2 : Int32) (Q : Int32 → gw_H → Prop) : Prop :=
  (wp_X6_isHead h p1 (fun r_2 h_1 => ((¬ r_2 = 0 → (wp_X6_isIn h_1 p2 (6 : Int32) (fun r_5 h_4 => ((r_5 = 0 → ((¬ p2 = (6 : Int32) → ((¬ p2 = (7 : Int32) → (wp_X6_refuse h_4 (-2 : Int32) (fun r_10 h_9 => Q r_10 h_9))) ∧ (p2 = (7 : Int32) → (wp_X6_hums h_4 p1 (fun r_12 h_11 => ((r_12 = 0 → Q (0 : Int32) h_11) ∧ (¬ r_12 = 0 → Q (1 : Int32) h_11))))))) ∧ (p2 = (6 : Int32) → (wp_X6_bar h_4 p1 (fun r_15 h_14 => Q r_15 h_14))))) ∧ (¬ r_5 = 0 → (wp_X6_at h_4 p1 p2 (fun r_17 h_16 => Q r_17 h_16))))))) ∧ (r_2 = 0 → (wp_X6_refuse h_1 (-1 : Int32) (fun r_19 h_18 => Q r_19 h_18))))))
set_option maxRecDepth 100000 in
set_option maxHeartbeats 4000000 in
theorem gc_X6_head {l : Launch} {ad : Nat → Nat} {h : gw_H} {p1 : Int32} {p2 : Int32} {Q : Int32 → gw_H → Prop}  (hw : wp_X6_head h p1 p2 Q) : gw_C l yX6_head cX6_head 3 (some .int) 2 44 vM ad [.ref (ad 0), .int p1, .int p2] h Q := by
  refine gw_entry (own := RX6) [some (.ref (ad 0)), some (.int p1), some (.int p2)] pl_X6 rfl rfl (Nat.le_of_ble_eq_true rfl) rfl (fun X => ?_)
  unfold wp_X6_head at hw
  refine gw_aload_n dX6_head_0 rfl rfl ?_
  refine gw_iload_n dX6_head_1 rfl rfl ?_
  refine gw_callVi (As := [.int p1]) (rest := []) rfl (gc_X6_isHead  hw) mX6_isHead lmX6_144 oX6 clX6 rfl rfl ⟨Nat.le_of_ble_eq_true rfl, Nat.le_of_ble_eq_true rfl⟩ (Nat.le_of_ble_eq_true rfl) dX6_head_2 (fun r_2 h_1 hw => ?_)
  refine gw_if_ne (tgt := 14) dX6_head_5 (by decide) (fun c_3 => ?_) (fun c_3 => ?_)
  · have hw := hw.1 c_3
    refine gw_iload_n dX6_head_14 rfl rfl ?_
    refine gw_bipush dX6_head_15 bp_6 ?_
    refine gw_callSi (As := [.int p2, .int (6 : Int32)]) (rest := []) rfl (gc_X6_isIn  hw) mX6_isIn lmX6_53 rfl rfl ⟨Nat.le_of_ble_eq_true rfl, Nat.le_of_ble_eq_true rfl⟩ (Nat.le_of_ble_eq_true rfl) dX6_head_17 (fun r_5 h_4 hw => ?_)
    refine gw_if_eq (tgt := 32) dX6_head_20 (by decide) (fun c_6 => ?_) (fun c_6 => ?_)
    · have hw := hw.1 c_6
      refine gw_iload_n dX6_head_32 rfl rfl ?_
      refine gw_bipush dX6_head_33 bp_6 ?_
      refine gw_icmp_ne (tgt := 46) dX6_head_35 (by decide) (fun c_7 => ?_) (fun c_7 => ?_)
      · have hw := hw.1 c_7
        refine gw_iload_n dX6_head_46 rfl rfl ?_
        refine gw_bipush dX6_head_47 bp_7 ?_
        refine gw_icmp_ne (tgt := 68) dX6_head_49 (by decide) (fun c_8 => ?_) (fun c_8 => ?_)
        · have hw := hw.1 c_8
          refine gw_aload_n dX6_head_68 rfl rfl ?_
          refine gw_bipush dX6_head_69 bp_m2 ?_
          refine gw_callVi (As := [.int (-2 : Int32)]) (rest := []) rfl (gc_X6_refuse  hw) mX6_refuse lmX6_120 oX6 clX6 rfl rfl ⟨Nat.le_of_ble_eq_true rfl, Nat.le_of_ble_eq_true rfl⟩ (Nat.le_of_ble_eq_true rfl) dX6_head_71 (fun r_10 h_9 hw => ?_)
          exact gw_ireturn (ty := .int) hw rfl rfl dX6_head_74
        · have hw := hw.2 c_8
          refine gw_aload_n dX6_head_52 rfl rfl ?_
          refine gw_iload_n dX6_head_53 rfl rfl ?_
          refine gw_callVi (As := [.int p1]) (rest := []) rfl (gc_X6_hums  hw) mX6_hums lmX6_85 oX6 clX6 rfl rfl ⟨Nat.le_of_ble_eq_true rfl, Nat.le_of_ble_eq_true rfl⟩ (Nat.le_of_ble_eq_true rfl) dX6_head_54 (fun r_12 h_11 hw => ?_)
          refine gw_if_eq (tgt := 64) dX6_head_57 (by decide) (fun c_13 => ?_) (fun c_13 => ?_)
          · have hw := hw.1 c_13
            refine gw_iconst dX6_head_64 ic_0 ?_
            refine gw_goto (tgt := 74) dX6_head_65 (by decide) ?_
            exact gw_ireturn (ty := .int) hw rfl rfl dX6_head_74
          · have hw := hw.2 c_13
            refine gw_iconst dX6_head_60 ic_1 ?_
            refine gw_goto (tgt := 74) dX6_head_61 (by decide) ?_
            exact gw_ireturn (ty := .int) hw rfl rfl dX6_head_74
      · have hw := hw.2 c_7
        refine gw_aload_n dX6_head_38 rfl rfl ?_
        refine gw_iload_n dX6_head_39 rfl rfl ?_
        refine gw_callVi (As := [.int p1]) (rest := []) rfl (gc_X6_bar  hw) mX6_bar lmX6_75 oX6 clX6 rfl rfl ⟨Nat.le_of_ble_eq_true rfl, Nat.le_of_ble_eq_true rfl⟩ (Nat.le_of_ble_eq_true rfl) dX6_head_40 (fun r_15 h_14 hw => ?_)
        refine gw_goto (tgt := 74) dX6_head_43 (by decide) ?_
        exact gw_ireturn (ty := .int) hw rfl rfl dX6_head_74
    · have hw := hw.2 c_6
      refine gw_aload_n dX6_head_23 rfl rfl ?_
      refine gw_iload_n dX6_head_24 rfl rfl ?_
      refine gw_iload_n dX6_head_25 rfl rfl ?_
      refine gw_callVi (As := [.int p1, .int p2]) (rest := []) rfl (gc_X6_at  hw) mX6_at lmX6_61 oX6 clX6 rfl rfl ⟨Nat.le_of_ble_eq_true rfl, Nat.le_of_ble_eq_true rfl⟩ (Nat.le_of_ble_eq_true rfl) dX6_head_26 (fun r_17 h_16 hw => ?_)
      refine gw_goto (tgt := 74) dX6_head_29 (by decide) ?_
      exact gw_ireturn (ty := .int) hw rfl rfl dX6_head_74
  · have hw := hw.2 c_3
    refine gw_aload_n dX6_head_8 rfl rfl ?_
    refine gw_iconst dX6_head_9 ic_m1 ?_
    refine gw_callVi (As := [.int (-1 : Int32)]) (rest := []) rfl (gc_X6_refuse  hw) mX6_refuse lmX6_120 oX6 clX6 rfl rfl ⟨Nat.le_of_ble_eq_true rfl, Nat.le_of_ble_eq_true rfl⟩ (Nat.le_of_ble_eq_true rfl) dX6_head_10 (fun r_19 h_18 hw => ?_)
    exact gw_ireturn (ty := .int) hw rfl rfl dX6_head_13
def wp_X6_headOf (h : gw_H) (p1 : Int32) (Q : Int32 → gw_H → Prop) : Prop :=
  ((¬ p1 = (104 : Int32) → ((¬ p1 = (119 : Int32) → ((¬ p1 = (100 : Int32) → ((¬ p1 = (116 : Int32) → ((¬ p1 = (98 : Int32) → ((¬ p1 = (121 : Int32) → Q (-9 : Int32) h) ∧ (p1 = (121 : Int32) → Q (5 : Int32) h))) ∧ (p1 = (98 : Int32) → Q (4 : Int32) h))) ∧ (p1 = (116 : Int32) → Q (3 : Int32) h))) ∧ (p1 = (100 : Int32) → Q (2 : Int32) h))) ∧ (p1 = (119 : Int32) → Q (1 : Int32) h))) ∧ (p1 = (104 : Int32) → Q (0 : Int32) h))
set_option maxRecDepth 100000 in
set_option maxHeartbeats 4000000 in
theorem gc_X6_headOf {l : Launch} {ad : Nat → Nat} {h : gw_H} {p1 : Int32} {Q : Int32 → gw_H → Prop}  (hw : wp_X6_headOf h p1 Q) : gw_C l yX6_headOf cX6_headOf 1 (some .int) 0 0 vM ad [.int p1] h Q := by
  refine gw_entry (own := RX6) [some (.int p1)] pl_X6 rfl rfl (Nat.le_of_ble_eq_true rfl) rfl (fun X => ?_)
  unfold wp_X6_headOf at hw
  refine gw_iload_n dX6_headOf_0 rfl rfl ?_
  refine gw_bipush dX6_headOf_1 bp_104 ?_
  refine gw_icmp_ne (tgt := 10) dX6_headOf_3 (by decide) (fun c_1 => ?_) (fun c_1 => ?_)
  · have hw := hw.1 c_1
    refine gw_iload_n dX6_headOf_10 rfl rfl ?_
    refine gw_bipush dX6_headOf_11 bp_119 ?_
    refine gw_icmp_ne (tgt := 20) dX6_headOf_13 (by decide) (fun c_2 => ?_) (fun c_2 => ?_)
    · have hw := hw.1 c_2
      refine gw_iload_n dX6_headOf_20 rfl rfl ?_
      refine gw_bipush dX6_headOf_21 bp_100 ?_
      refine gw_icmp_ne (tgt := 30) dX6_headOf_23 (by decide) (fun c_3 => ?_) (fun c_3 => ?_)
      · have hw := hw.1 c_3
        refine gw_iload_n dX6_headOf_30 rfl rfl ?_
        refine gw_bipush dX6_headOf_31 bp_116 ?_
        refine gw_icmp_ne (tgt := 40) dX6_headOf_33 (by decide) (fun c_4 => ?_) (fun c_4 => ?_)
        · have hw := hw.1 c_4
          refine gw_iload_n dX6_headOf_40 rfl rfl ?_
          refine gw_bipush dX6_headOf_41 bp_98 ?_
          refine gw_icmp_ne (tgt := 50) dX6_headOf_43 (by decide) (fun c_5 => ?_) (fun c_5 => ?_)
          · have hw := hw.1 c_5
            refine gw_iload_n dX6_headOf_50 rfl rfl ?_
            refine gw_bipush dX6_headOf_51 bp_121 ?_
            refine gw_icmp_ne (tgt := 60) dX6_headOf_53 (by decide) (fun c_6 => ?_) (fun c_6 => ?_)
            · have hw := hw.1 c_6
              refine gw_bipush dX6_headOf_60 bp_m9 ?_
              exact gw_ireturn (ty := .int) hw rfl rfl dX6_headOf_62
            · have hw := hw.2 c_6
              refine gw_iconst dX6_headOf_56 ic_5 ?_
              refine gw_goto (tgt := 62) dX6_headOf_57 (by decide) ?_
              exact gw_ireturn (ty := .int) hw rfl rfl dX6_headOf_62
          · have hw := hw.2 c_5
            refine gw_iconst dX6_headOf_46 ic_4 ?_
            refine gw_goto (tgt := 62) dX6_headOf_47 (by decide) ?_
            exact gw_ireturn (ty := .int) hw rfl rfl dX6_headOf_62
        · have hw := hw.2 c_4
          refine gw_iconst dX6_headOf_36 ic_3 ?_
          refine gw_goto (tgt := 62) dX6_headOf_37 (by decide) ?_
          exact gw_ireturn (ty := .int) hw rfl rfl dX6_headOf_62
      · have hw := hw.2 c_3
        refine gw_iconst dX6_headOf_26 ic_2 ?_
        refine gw_goto (tgt := 62) dX6_headOf_27 (by decide) ?_
        exact gw_ireturn (ty := .int) hw rfl rfl dX6_headOf_62
    · have hw := hw.2 c_2
      refine gw_iconst dX6_headOf_16 ic_1 ?_
      refine gw_goto (tgt := 62) dX6_headOf_17 (by decide) ?_
      exact gw_ireturn (ty := .int) hw rfl rfl dX6_headOf_62
  · have hw := hw.2 c_1
    refine gw_iconst dX6_headOf_6 ic_0 ?_
    refine gw_goto (tgt := 62) dX6_headOf_7 (by decide) ?_
    exact gw_ireturn (ty := .int) hw rfl rfl dX6_headOf_62
def wk_X6_hold_29 (p1 : Int32) (p2 : Int32) (p3 : Int32)  (Q : Int32 → gw_H → Prop) : Int32 → gw_H → Prop :=
  fun x4 h => ((x4 = 0 → (wp_X6_begins h  (fun _ h_7 => (wp_X6_goesFor h_7 p2 (fun _ h_8 => (wp_X6_at h_8 p1 ((3 : Int32) + p3) (fun r_10 h_9 => (wp_X6_ends h_9  (fun _ h_11 => Q r_10 h_11))))))))) ∧ (¬ x4 = 0 → (wp_X6_refuse h x4 (fun r_13 h_12 => Q r_13 h_12))))
set_option maxRecDepth 100000 in
set_option maxHeartbeats 4000000 in
theorem tk_X6_hold_29 {l : Launch} {ad : Nat → Nat} {X : gw_X} {p1 : Int32} {p2 : Int32} {p3 : Int32}  {Q : Int32 → gw_H → Prop}   (x4 : Int32) (h : gw_H) (hw : wk_X6_hold_29 p1 p2 p3  Q x4 h) : gw_G l vM ad cX6_hold RX6 6 (some .int) 6 135 Q X h 29 [some (.ref (ad 0)), some (.int p1), some (.int p2), some (.int p3), some (.int x4), none] [] := by
  unfold wk_X6_hold_29 at hw
  refine gw_iload dX6_hold_29 rfl ?_
  refine gw_if_eq (tgt := 41) dX6_hold_31 (by decide) (fun c_6 => ?_) (fun c_6 => ?_)
  · have hw := hw.1 c_6
    refine gw_aload_n dX6_hold_41 rfl rfl ?_
    refine gw_callVv (As := []) (rest := []) rfl (gc_X6_begins  hw) mX6_begins lmX6_96 oX6 clX6 rfl rfl ⟨Nat.le_of_ble_eq_true rfl, Nat.le_of_ble_eq_true rfl⟩ (Nat.le_of_ble_eq_true rfl) dX6_hold_42 (fun h_7 hw => ?_)
    refine gw_aload_n dX6_hold_45 rfl rfl ?_
    refine gw_iload_n dX6_hold_46 rfl rfl ?_
    refine gw_callVv (As := [.int p2]) (rest := []) rfl (gc_X6_goesFor  hw) mX6_goesFor lmX6_103 oX6 clX6 rfl rfl ⟨Nat.le_of_ble_eq_true rfl, Nat.le_of_ble_eq_true rfl⟩ (Nat.le_of_ble_eq_true rfl) dX6_hold_47 (fun h_8 hw => ?_)
    refine gw_aload_n dX6_hold_50 rfl rfl ?_
    refine gw_iload_n dX6_hold_51 rfl rfl ?_
    refine gw_iconst dX6_hold_52 ic_3 ?_
    refine gw_iload_n dX6_hold_53 rfl rfl ?_
    refine gw_iadd dX6_hold_54 ?_
    refine gw_callVi (As := [.int p1, .int ((3 : Int32) + p3)]) (rest := []) rfl (gc_X6_at  hw) mX6_at lmX6_61 oX6 clX6 rfl rfl ⟨Nat.le_of_ble_eq_true rfl, Nat.le_of_ble_eq_true rfl⟩ (Nat.le_of_ble_eq_true rfl) dX6_hold_55 (fun r_10 h_9 hw => ?_)
    refine gw_istore (ls' := [some (.ref (ad 0)), some (.int p1), some (.int p2), some (.int p3), some (.int x4), some (.int r_10)]) dX6_hold_58 (Nat.le_of_ble_eq_true rfl) rfl ?_
    refine gw_aload_n dX6_hold_60 rfl rfl ?_
    refine gw_callVv (As := []) (rest := []) rfl (gc_X6_ends  hw) mX6_ends lmX6_109 oX6 clX6 rfl rfl ⟨Nat.le_of_ble_eq_true rfl, Nat.le_of_ble_eq_true rfl⟩ (Nat.le_of_ble_eq_true rfl) dX6_hold_61 (fun h_11 hw => ?_)
    refine gw_iload dX6_hold_64 rfl ?_
    exact gw_ireturn (ty := .int) hw rfl rfl dX6_hold_66
  · have hw := hw.2 c_6
    refine gw_aload_n dX6_hold_34 rfl rfl ?_
    refine gw_iload dX6_hold_35 rfl ?_
    refine gw_callVi (As := [.int x4]) (rest := []) rfl (gc_X6_refuse  hw) mX6_refuse lmX6_120 oX6 clX6 rfl rfl ⟨Nat.le_of_ble_eq_true rfl, Nat.le_of_ble_eq_true rfl⟩ (Nat.le_of_ble_eq_true rfl) dX6_hold_37 (fun r_13 h_12 hw => ?_)
    exact gw_ireturn (ty := .int) hw rfl rfl dX6_hold_40
def wp_X6_hold (h : gw_H) (p1 : Int32) (p2 : Int32) (p3 : Int32) (Q : Int32 → gw_H → Prop) : Prop :=
  (wp_X6_isHead h p1 (fun r_2 h_1 => (wp_X6_wrong h_1 r_2 p2 (fun r_4 h_3 => ((¬ r_4 = 0 → (wk_X6_hold_29 p1 p2 p3  Q r_4 h_3)) ∧ (r_4 = 0 → (wp_X6_isIn h_3 p3 (2 : Int32) (fun r_15 h_14 => ((¬ r_15 = 0 → (wk_X6_hold_29 p1 p2 p3  Q r_4 h_14)) ∧ (r_15 = 0 → (wk_X6_hold_29 p1 p2 p3  Q (-2 : Int32) h_14)))))))))))
set_option maxRecDepth 100000 in
set_option maxHeartbeats 4000000 in
theorem gc_X6_hold {l : Launch} {ad : Nat → Nat} {h : gw_H} {p1 : Int32} {p2 : Int32} {p3 : Int32} {Q : Int32 → gw_H → Prop}  (hw : wp_X6_hold h p1 p2 p3 Q) : gw_C l yX6_hold cX6_hold 6 (some .int) 6 135 vM ad [.ref (ad 0), .int p1, .int p2, .int p3] h Q := by
  refine gw_entry (own := RX6) [some (.ref (ad 0)), some (.int p1), some (.int p2), some (.int p3), none, none] pl_X6 rfl rfl (Nat.le_of_ble_eq_true rfl) rfl (fun X => ?_)
  unfold wp_X6_hold at hw
  refine gw_aload_n dX6_hold_0 rfl rfl ?_
  refine gw_aload_n dX6_hold_1 rfl rfl ?_
  refine gw_iload_n dX6_hold_2 rfl rfl ?_
  refine gw_callVi (As := [.int p1]) (rest := [.ref (ad 0)]) rfl (gc_X6_isHead  hw) mX6_isHead lmX6_144 oX6 clX6 rfl rfl ⟨Nat.le_of_ble_eq_true rfl, Nat.le_of_ble_eq_true rfl⟩ (Nat.le_of_ble_eq_true rfl) dX6_hold_3 (fun r_2 h_1 hw => ?_)
  refine gw_iload_n dX6_hold_6 rfl rfl ?_
  refine gw_callVi (As := [.int r_2, .int p2]) (rest := []) rfl (gc_X6_wrong  hw) mX6_wrong lmX6_163 oX6 clX6 rfl rfl ⟨Nat.le_of_ble_eq_true rfl, Nat.le_of_ble_eq_true rfl⟩ (Nat.le_of_ble_eq_true rfl) dX6_hold_7 (fun r_4 h_3 hw => ?_)
  refine gw_istore (ls' := [some (.ref (ad 0)), some (.int p1), some (.int p2), some (.int p3), some (.int r_4), none]) dX6_hold_10 (Nat.le_of_ble_eq_true rfl) rfl ?_
  refine gw_iload dX6_hold_12 rfl ?_
  refine gw_if_ne (tgt := 29) dX6_hold_14 (by decide) (fun c_5 => ?_) (fun c_5 => ?_)
  · have hw := hw.1 c_5
    exact tk_X6_hold_29   r_4 h_3 hw
  · have hw := hw.2 c_5
    refine gw_iload_n dX6_hold_17 rfl rfl ?_
    refine gw_iconst dX6_hold_18 ic_2 ?_
    refine gw_callSi (As := [.int p3, .int (2 : Int32)]) (rest := []) rfl (gc_X6_isIn  hw) mX6_isIn lmX6_53 rfl rfl ⟨Nat.le_of_ble_eq_true rfl, Nat.le_of_ble_eq_true rfl⟩ (Nat.le_of_ble_eq_true rfl) dX6_hold_19 (fun r_15 h_14 hw => ?_)
    refine gw_if_ne (tgt := 29) dX6_hold_22 (by decide) (fun c_16 => ?_) (fun c_16 => ?_)
    · have hw := hw.1 c_16
      exact tk_X6_hold_29   r_4 h_14 hw
    · have hw := hw.2 c_16
      refine gw_bipush dX6_hold_25 bp_m2 ?_
      refine gw_istore (ls' := [some (.ref (ad 0)), some (.int p1), some (.int p2), some (.int p3), some (.int (-2 : Int32)), none]) dX6_hold_27 (Nat.le_of_ble_eq_true rfl) rfl ?_
      exact tk_X6_hold_29   (-2 : Int32) h_14 hw
def wp_X6_hour (h : gw_H)  (Q : Int32 → gw_H → Prop) : Prop :=
  ((¬ (h 2 4) = (999 : Int32) → (wp_X6_goes h  (fun r_3 h_2 => Q r_3 h_2))) ∧ ((h 2 4) = (999 : Int32) → (wp_X6_refuse h (-6 : Int32) (fun r_5 h_4 => Q r_5 h_4))))
set_option maxRecDepth 100000 in
set_option maxHeartbeats 4000000 in
theorem gc_X6_hour {l : Launch} {ad : Nat → Nat} {h : gw_H}  {Q : Int32 → gw_H → Prop}  (hw : wp_X6_hour h  Q) : gw_C l yX6_hour cX6_hour 1 (some .int) 5 113 vM ad [.ref (ad 0)] h Q := by
  refine gw_entry (own := RX6) [some (.ref (ad 0))] pl_X6 rfl rfl (Nat.le_of_ble_eq_true rfl) rfl (fun X => ?_)
  unfold wp_X6_hour at hw
  refine gw_aload_n dX6_hour_0 rfl rfl ?_
  refine gw_getf (k := 1) (v := .ref (ad 2)) oX6 clX6 inUX6 (Nat.le_of_ble_eq_true rfl) rfl lfX6_13 rfl dX6_hour_1 ?_
  refine gw_iconst dX6_hour_4 ic_4 ?_
  refine gw_iald am_2 in_4_73 cl_4 dX6_hour_5 ?_
  refine gw_sipush dX6_hour_6 sp_999 ?_
  refine gw_icmp_ne (tgt := 21) dX6_hour_9 (by decide) (fun c_1 => ?_) (fun c_1 => ?_)
  · have hw := hw.1 c_1
    refine gw_aload_n dX6_hour_21 rfl rfl ?_
    refine gw_callVi (As := []) (rest := []) rfl (gc_X6_goes  hw) mX6_goes lmX6_99 oX6 clX6 rfl rfl ⟨Nat.le_of_ble_eq_true rfl, Nat.le_of_ble_eq_true rfl⟩ (Nat.le_of_ble_eq_true rfl) dX6_hour_22 (fun r_3 h_2 hw => ?_)
    exact gw_ireturn (ty := .int) hw rfl rfl dX6_hour_25
  · have hw := hw.2 c_1
    refine gw_aload_n dX6_hour_12 rfl rfl ?_
    refine gw_bipush dX6_hour_13 bp_m6 ?_
    refine gw_callVi (As := [.int (-6 : Int32)]) (rest := []) rfl (gc_X6_refuse  hw) mX6_refuse lmX6_120 oX6 clX6 rfl rfl ⟨Nat.le_of_ble_eq_true rfl, Nat.le_of_ble_eq_true rfl⟩ (Nat.le_of_ble_eq_true rfl) dX6_hour_15 (fun r_5 h_4 hw => ?_)
    refine gw_goto (tgt := 25) dX6_hour_18 (by decide) ?_
    exact gw_ireturn (ty := .int) hw rfl rfl dX6_hour_25
def wp_X6_image (h : gw_H)  (Q : Int32 → gw_H → Prop) : Prop :=
  (wp_X6_lays h (2) 73 (3) 73 (fun _ h_1 => Q ((gw_up h_1 0 5 (1 : Int32)) 2 4) (gw_up h_1 0 5 (1 : Int32))))
set_option maxRecDepth 100000 in
set_option maxHeartbeats 4000000 in
theorem gc_X6_image {l : Launch} {ad : Nat → Nat} {h : gw_H}  {Q : Int32 → gw_H → Prop}  (hw : wp_X6_image h  Q) : gw_C l yX6_image cX6_image 1 (some .int) 1 22 vM ad [.ref (ad 0)] h Q := by
  refine gw_entry (own := RX6) [some (.ref (ad 0))] pl_X6 rfl rfl (Nat.le_of_ble_eq_true rfl) rfl (fun X => ?_)
  unfold wp_X6_image at hw
  refine gw_aload_n dX6_image_0 rfl rfl ?_
  refine gw_getf (k := 1) (v := .ref (ad 2)) oX6 clX6 inUX6 (Nat.le_of_ble_eq_true rfl) rfl lfX6_13 rfl dX6_image_1 ?_
  refine gw_aload_n dX6_image_4 rfl rfl ?_
  refine gw_getf (k := 2) (v := .ref (ad 3)) oX6 clX6 inUX6 (Nat.le_of_ble_eq_true rfl) rfl lfX6_16 rfl dX6_image_5 ?_
  refine gw_callSv (As := [.ref (ad 2), .ref (ad 3)]) (rest := []) rfl (gc_X6_lays am_2 am_3 hw) mX6_lays lmX6_49 rfl rfl ⟨Nat.le_of_ble_eq_true rfl, Nat.le_of_ble_eq_true rfl⟩ (Nat.le_of_ble_eq_true rfl) dX6_image_8 (fun h_1 hw => ?_)
  refine gw_aload_n dX6_image_11 rfl rfl ?_
  refine gw_iconst dX6_image_12 ic_1 ?_
  refine gw_putf (k := 5) (ty := .boolean) oX6 clX6 inUX6 tyX6_ok nmX6 (Nat.le_of_ble_eq_true rfl) rfl lfX6_192 (by decide +kernel) rfl (by decide +kernel) st_X6_5 dX6_image_13 ?_
  refine gw_aload_n dX6_image_16 rfl rfl ?_
  refine gw_getf (k := 1) (v := .ref (ad 2)) oX6 clX6 inUX6 (Nat.le_of_ble_eq_true rfl) rfl lfX6_13 rfl dX6_image_17 ?_
  refine gw_iconst dX6_image_20 ic_4 ?_
  refine gw_iald am_2 in_4_73 cl_4 dX6_image_21 ?_
  exact gw_ireturn (ty := .int) hw rfl rfl dX6_image_22
def wk_X6_ridOf_42 (p1 : Int32)  (Q : Int32 → gw_H → Prop) : Int32 → gw_H → Prop :=
  fun x2 h => (wp_X6_ends h  (fun _ h_2 => Q x2 h_2))
set_option maxRecDepth 100000 in
set_option maxHeartbeats 4000000 in
theorem tk_X6_ridOf_42 {l : Launch} {ad : Nat → Nat} {X : gw_X} {p1 : Int32}  {Q : Int32 → gw_H → Prop}   (x2 : Int32) (h : gw_H) (hw : wk_X6_ridOf_42 p1  Q x2 h) : gw_G l vM ad cX6_ridOf RX6 4 (some .int) 5 113 Q X h 42 [some (.ref (ad 0)), some (.int p1), some (.int x2), none] [] := by
  unfold wk_X6_ridOf_42 at hw
  refine gw_aload_n dX6_ridOf_42 rfl rfl ?_
  refine gw_callVv (As := []) (rest := []) rfl (gc_X6_ends  hw) mX6_ends lmX6_109 oX6 clX6 rfl rfl ⟨Nat.le_of_ble_eq_true rfl, Nat.le_of_ble_eq_true rfl⟩ (Nat.le_of_ble_eq_true rfl) dX6_ridOf_43 (fun h_2 hw => ?_)
  refine gw_iload_n dX6_ridOf_46 rfl rfl ?_
  exact gw_ireturn (ty := .int) hw rfl rfl dX6_ridOf_47
def wk_X6_ridOf_30 (p1 : Int32) (K5 : Int32 → Int32 → gw_H → Prop) (Q : Int32 → gw_H → Prop) : Int32 → Int32 → gw_H → Prop :=
  fun x3 s0 h => (wp_X6_goes h  (fun r_8 h_7 => (K5 s0 (x3 + (1 : Int32)) h_7)))
set_option maxRecDepth 100000 in
set_option maxHeartbeats 4000000 in
theorem tk_X6_ridOf_30 {l : Launch} {ad : Nat → Nat} {X : gw_X} {p1 : Int32} {K5 : Int32 → Int32 → gw_H → Prop} {Q : Int32 → gw_H → Prop}  (hK5 : ∀ (y2 : Int32) (y3 : Int32) (h : gw_H), K5 y2 y3 h → gw_G l vM ad cX6_ridOf RX6 4 (some .int) 5 113 Q X h 5 [some (.ref (ad 0)), some (.int p1), some (.int y2), some (.int y3)] []) (x3 : Int32) (s0 : Int32) (h : gw_H) (hw : wk_X6_ridOf_30 p1 K5 Q x3 s0 h) : gw_G l vM ad cX6_ridOf RX6 4 (some .int) 5 113 Q X h 30 [some (.ref (ad 0)), some (.int p1), none, some (.int x3)] [.int s0] := by
  unfold wk_X6_ridOf_30 at hw
  refine gw_istore_n (ls' := [some (.ref (ad 0)), some (.int p1), some (.int s0), some (.int x3)]) dX6_ridOf_30 rfl (Nat.le_of_ble_eq_true rfl) rfl ?_
  refine gw_aload_n dX6_ridOf_31 rfl rfl ?_
  refine gw_callVi (As := []) (rest := []) rfl (gc_X6_goes  hw) mX6_goes lmX6_99 oX6 clX6 rfl rfl ⟨Nat.le_of_ble_eq_true rfl, Nat.le_of_ble_eq_true rfl⟩ (Nat.le_of_ble_eq_true rfl) dX6_ridOf_32 (fun r_8 h_7 hw => ?_)
  refine gw_pop dX6_ridOf_35 rfl ?_
  refine gw_iinc (ls' := [some (.ref (ad 0)), some (.int p1), some (.int s0), some (.int (x3 + (1 : Int32)))]) dX6_ridOf_36 rfl (congrArg (fun z => x3 + z) ic_1) (Nat.le_of_ble_eq_true rfl) rfl ?_
  refine gw_goto (tgt := 5) dX6_ridOf_39 (by decide) ?_
  exact hK5 s0 (x3 + (1 : Int32)) h_7 hw
def wl_X6_ridOf_5 (p1 : Int32)  (Q : Int32 → gw_H → Prop) : Nat → Int32 → Int32 → gw_H → Prop
  | 0 => fun _ _ _ => False
  | n + 1 => fun x2 x3 h => (((60 : Int32) < x3 → (wk_X6_ridOf_42 p1  Q x2 h)) ∧ (¬ (60 : Int32) < x3 → ((0 ≤ x2 → (wk_X6_ridOf_42 p1  Q x2 h)) ∧ (¬ 0 ≤ x2 → (wp_X6_at h p1 (3 : Int32) (fun r_5 h_4 => ((0 ≤ r_5 → (wk_X6_ridOf_30 p1 (wl_X6_ridOf_5 p1  Q n) Q x3 (-9 : Int32) h_4)) ∧ (¬ 0 ≤ r_5 → (wk_X6_ridOf_30 p1 (wl_X6_ridOf_5 p1  Q n) Q x3 x3 h_4)))))))))
set_option maxRecDepth 100000 in
set_option maxHeartbeats 4000000 in
theorem tl_X6_ridOf_5 {l : Launch} {ad : Nat → Nat} {X : gw_X} {p1 : Int32}  {Q : Int32 → gw_H → Prop}   : ∀ (n : Nat) (x2 : Int32) (x3 : Int32) (h : gw_H), wl_X6_ridOf_5 p1  Q n x2 x3 h → gw_G l vM ad cX6_ridOf RX6 4 (some .int) 5 113 Q X h 5 [some (.ref (ad 0)), some (.int p1), some (.int x2), some (.int x3)] [] := by
  intro n
  induction n with
  | zero => intro x2 x3 h hw; exact hw.elim
  | succ n ih =>
    intro x2 x3 h hw
    unfold wl_X6_ridOf_5 at hw
    refine gw_iload_n dX6_ridOf_5 rfl rfl ?_
    refine gw_bipush dX6_ridOf_6 bp_60 ?_
    refine gw_icmp_gt (tgt := 42) dX6_ridOf_8 (by decide) (fun c_1 => ?_) (fun c_1 => ?_)
    · have hw := hw.1 c_1
      refine gw_forget (ls' := [some (.ref (ad 0)), some (.int p1), some (.int x2), none]) (gw_sub.s (gw_sub.s (gw_sub.s (gw_sub.n gw_sub.z)))) ?_
      exact tk_X6_ridOf_42   x2 h hw
    · have hw := hw.2 c_1
      refine gw_iload_n dX6_ridOf_11 rfl rfl ?_
      refine gw_if_ge (tgt := 42) dX6_ridOf_12 (by decide) (fun c_3 => ?_) (fun c_3 => ?_)
      · have hw := hw.1 c_3
        refine gw_forget (ls' := [some (.ref (ad 0)), some (.int p1), some (.int x2), none]) (gw_sub.s (gw_sub.s (gw_sub.s (gw_sub.n gw_sub.z)))) ?_
        exact tk_X6_ridOf_42   x2 h hw
      · have hw := hw.2 c_3
        refine gw_aload_n dX6_ridOf_15 rfl rfl ?_
        refine gw_iload_n dX6_ridOf_16 rfl rfl ?_
        refine gw_iconst dX6_ridOf_17 ic_3 ?_
        refine gw_callVi (As := [.int p1, .int (3 : Int32)]) (rest := []) rfl (gc_X6_at  hw) mX6_at lmX6_61 oX6 clX6 rfl rfl ⟨Nat.le_of_ble_eq_true rfl, Nat.le_of_ble_eq_true rfl⟩ (Nat.le_of_ble_eq_true rfl) dX6_ridOf_18 (fun r_5 h_4 hw => ?_)
        refine gw_if_ge (tgt := 28) dX6_ridOf_21 (by decide) (fun c_6 => ?_) (fun c_6 => ?_)
        · have hw := hw.1 c_6
          refine gw_bipush dX6_ridOf_28 bp_m9 ?_
          refine gw_forget (ls' := [some (.ref (ad 0)), some (.int p1), none, some (.int x3)]) (gw_sub.s (gw_sub.s (gw_sub.n (gw_sub.s gw_sub.z)))) ?_
          exact tk_X6_ridOf_30   ih x3 (-9 : Int32) h_4 hw
        · have hw := hw.2 c_6
          refine gw_iload_n dX6_ridOf_24 rfl rfl ?_
          refine gw_goto (tgt := 30) dX6_ridOf_25 (by decide) ?_
          refine gw_forget (ls' := [some (.ref (ad 0)), some (.int p1), none, some (.int x3)]) (gw_sub.s (gw_sub.s (gw_sub.n (gw_sub.s gw_sub.z)))) ?_
          exact tk_X6_ridOf_30   ih x3 x3 h_4 hw
def wp_X6_ridOf (h : gw_H) (p1 : Int32) (Q : Int32 → gw_H → Prop) : Prop :=
  (∃ n_9 : Nat, wl_X6_ridOf_5 p1  Q n_9 (-9 : Int32) (0 : Int32) h)
set_option maxRecDepth 100000 in
set_option maxHeartbeats 4000000 in
theorem gc_X6_ridOf {l : Launch} {ad : Nat → Nat} {h : gw_H} {p1 : Int32} {Q : Int32 → gw_H → Prop}  (hw : wp_X6_ridOf h p1 Q) : gw_C l yX6_ridOf cX6_ridOf 4 (some .int) 5 113 vM ad [.ref (ad 0), .int p1] h Q := by
  refine gw_entry (own := RX6) [some (.ref (ad 0)), some (.int p1), none, none] pl_X6 rfl rfl (Nat.le_of_ble_eq_true rfl) rfl (fun X => ?_)
  unfold wp_X6_ridOf at hw
  refine gw_bipush dX6_ridOf_0 bp_m9 ?_
  refine gw_istore_n (ls' := [some (.ref (ad 0)), some (.int p1), some (.int (-9 : Int32)), none]) dX6_ridOf_2 rfl (Nat.le_of_ble_eq_true rfl) rfl ?_
  refine gw_iconst dX6_ridOf_3 ic_0 ?_
  refine gw_istore_n (ls' := [some (.ref (ad 0)), some (.int p1), some (.int (-9 : Int32)), some (.int (0 : Int32))]) dX6_ridOf_4 rfl (Nat.le_of_ble_eq_true rfl) rfl ?_
  obtain ⟨n_9, hw⟩ := hw
  exact tl_X6_ridOf_5   n_9 (-9 : Int32) (0 : Int32) h hw
def wk_X6_instead_125 (p1 : Int32) (K63 : Int32 → Int32 → Int32 → Int32 → gw_H → Prop) (Q : Int32 → gw_H → Prop) : Int32 → Int32 → Int32 → Int32 → gw_H → Prop :=
  fun x3 x4 x5 x6 h => (K63 x3 x4 x5 (x6 + (1 : Int32)) h)
set_option maxRecDepth 100000 in
set_option maxHeartbeats 4000000 in
theorem tk_X6_instead_125 {l : Launch} {ad : Nat → Nat} {X : gw_X} {p1 : Int32} {K63 : Int32 → Int32 → Int32 → Int32 → gw_H → Prop} {Q : Int32 → gw_H → Prop}  (hK63 : ∀ (y3 : Int32) (y4 : Int32) (y5 : Int32) (y6 : Int32) (h : gw_H), K63 y3 y4 y5 y6 h → gw_G l vM ad cX6_instead RX6 8 (some .int) 6 136 Q X h 63 [some (.ref (ad 0)), some (.int p1), none, some (.int y3), some (.int y4), some (.int y5), some (.int y6), none] []) (x3 : Int32) (x4 : Int32) (x5 : Int32) (x6 : Int32) (h : gw_H) (hw : wk_X6_instead_125 p1 K63 Q x3 x4 x5 x6 h) : gw_G l vM ad cX6_instead RX6 8 (some .int) 6 136 Q X h 125 [some (.ref (ad 0)), some (.int p1), none, some (.int x3), some (.int x4), some (.int x5), some (.int x6), none] [] := by
  unfold wk_X6_instead_125 at hw
  refine gw_iinc (ls' := [some (.ref (ad 0)), some (.int p1), none, some (.int x3), some (.int x4), some (.int x5), some (.int (x6 + (1 : Int32))), none]) dX6_instead_125 rfl (congrArg (fun z => x6 + z) ic_1) (Nat.le_of_ble_eq_true rfl) rfl ?_
  refine gw_goto (tgt := 63) dX6_instead_128 (by decide) ?_
  exact hK63 x3 x4 x5 (x6 + (1 : Int32)) h hw
def wk_X6_instead_117 (p1 : Int32) (K63 : Int32 → Int32 → Int32 → Int32 → gw_H → Prop) (Q : Int32 → gw_H → Prop) : Int32 → Int32 → Int32 → gw_H → Prop :=
  fun x3 x6 x7 h => (wk_X6_instead_125 p1 K63 Q x3 x7 x6 x6 h)
set_option maxRecDepth 100000 in
set_option maxHeartbeats 4000000 in
theorem tk_X6_instead_117 {l : Launch} {ad : Nat → Nat} {X : gw_X} {p1 : Int32} {K63 : Int32 → Int32 → Int32 → Int32 → gw_H → Prop} {Q : Int32 → gw_H → Prop}  (hK63 : ∀ (y3 : Int32) (y4 : Int32) (y5 : Int32) (y6 : Int32) (h : gw_H), K63 y3 y4 y5 y6 h → gw_G l vM ad cX6_instead RX6 8 (some .int) 6 136 Q X h 63 [some (.ref (ad 0)), some (.int p1), none, some (.int y3), some (.int y4), some (.int y5), some (.int y6), none] []) (x3 : Int32) (x6 : Int32) (x7 : Int32) (h : gw_H) (hw : wk_X6_instead_117 p1 K63 Q x3 x6 x7 h) : gw_G l vM ad cX6_instead RX6 8 (some .int) 6 136 Q X h 117 [some (.ref (ad 0)), some (.int p1), none, some (.int x3), none, none, some (.int x6), some (.int x7)] [] := by
  unfold wk_X6_instead_117 at hw
  refine gw_iload dX6_instead_117 rfl ?_
  refine gw_istore (ls' := [some (.ref (ad 0)), some (.int p1), none, some (.int x3), none, some (.int x6), some (.int x6), some (.int x7)]) dX6_instead_119 (Nat.le_of_ble_eq_true rfl) rfl ?_
  refine gw_iload dX6_instead_121 rfl ?_
  refine gw_istore (ls' := [some (.ref (ad 0)), some (.int p1), none, some (.int x3), some (.int x7), some (.int x6), some (.int x6), some (.int x7)]) dX6_instead_123 (Nat.le_of_ble_eq_true rfl) rfl ?_
  refine gw_forget (ls' := [some (.ref (ad 0)), some (.int p1), none, some (.int x3), some (.int x7), some (.int x6), some (.int x6), none]) (gw_sub.s (gw_sub.s (gw_sub.n (gw_sub.s (gw_sub.s (gw_sub.s (gw_sub.s (gw_sub.n gw_sub.z)))))))) ?_
  exact tk_X6_instead_125  hK63 x3 x7 x6 x6 h hw
def wl_X6_instead_63 (p1 : Int32)  (Q : Int32 → gw_H → Prop) : Nat → Int32 → Int32 → Int32 → Int32 → gw_H → Prop
  | 0 => fun _ _ _ _ _ => False
  | n + 1 => fun x3 x4 x5 x6 h => (((h 2 2) ≤ x6 → Q x5 h) ∧ (¬ (h 2 2) ≤ x6 → ((¬ x6 = x3 → (wp_X6_gets h p1 x6 (fun _ h_15 => (wp_X6_ridOf h_15 p1 (fun r_17 h_16 => ((r_17 < 0 → (wk_X6_instead_125 p1 (wl_X6_instead_63 p1  Q n) Q x3 x4 x5 x6 h_16)) ∧ (¬ r_17 < 0 → ((x4 < 0 → (wk_X6_instead_117 p1 (wl_X6_instead_63 p1  Q n) Q x3 x6 r_17 h_16)) ∧ (¬ x4 < 0 → ((r_17 < x4 → (wk_X6_instead_117 p1 (wl_X6_instead_63 p1  Q n) Q x3 x6 r_17 h_16)) ∧ (¬ r_17 < x4 → (wk_X6_instead_125 p1 (wl_X6_instead_63 p1  Q n) Q x3 x4 x5 x6 h_16)))))))))))) ∧ (x6 = x3 → (wk_X6_instead_125 p1 (wl_X6_instead_63 p1  Q n) Q x3 x4 x5 x6 h)))))
set_option maxRecDepth 100000 in
set_option maxHeartbeats 4000000 in
theorem tl_X6_instead_63 {l : Launch} {ad : Nat → Nat} {X : gw_X} {p1 : Int32}  {Q : Int32 → gw_H → Prop}   : ∀ (n : Nat) (x3 : Int32) (x4 : Int32) (x5 : Int32) (x6 : Int32) (h : gw_H), wl_X6_instead_63 p1  Q n x3 x4 x5 x6 h → gw_G l vM ad cX6_instead RX6 8 (some .int) 6 136 Q X h 63 [some (.ref (ad 0)), some (.int p1), none, some (.int x3), some (.int x4), some (.int x5), some (.int x6), none] [] := by
  intro n
  induction n with
  | zero => intro x3 x4 x5 x6 h hw; exact hw.elim
  | succ n ih =>
    intro x3 x4 x5 x6 h hw
    unfold wl_X6_instead_63 at hw
    refine gw_iload dX6_instead_63 rfl ?_
    refine gw_aload_n dX6_instead_65 rfl rfl ?_
    refine gw_getf (k := 1) (v := .ref (ad 2)) oX6 clX6 inUX6 (Nat.le_of_ble_eq_true rfl) rfl lfX6_13 rfl dX6_instead_66 ?_
    refine gw_iconst dX6_instead_69 ic_2 ?_
    refine gw_iald am_2 in_2_73 cl_2 dX6_instead_70 ?_
    refine gw_icmp_ge (tgt := 131) dX6_instead_71 (by decide) (fun c_13 => ?_) (fun c_13 => ?_)
    · have hw := hw.1 c_13
      refine gw_iload dX6_instead_131 rfl ?_
      exact gw_ireturn (ty := .int) hw rfl rfl dX6_instead_133
    · have hw := hw.2 c_13
      refine gw_iload dX6_instead_74 rfl ?_
      refine gw_iload_n dX6_instead_76 rfl rfl ?_
      refine gw_icmp_ne (tgt := 83) dX6_instead_77 (by decide) (fun c_14 => ?_) (fun c_14 => ?_)
      · have hw := hw.1 c_14
        refine gw_aload_n dX6_instead_83 rfl rfl ?_
        refine gw_iload_n dX6_instead_84 rfl rfl ?_
        refine gw_iload dX6_instead_85 rfl ?_
        refine gw_callVv (As := [.int p1, .int x6]) (rest := []) rfl (gc_X6_gets  hw) mX6_gets lmX6_81 oX6 clX6 rfl rfl ⟨Nat.le_of_ble_eq_true rfl, Nat.le_of_ble_eq_true rfl⟩ (Nat.le_of_ble_eq_true rfl) dX6_instead_87 (fun h_15 hw => ?_)
        refine gw_aload_n dX6_instead_90 rfl rfl ?_
        refine gw_iload_n dX6_instead_91 rfl rfl ?_
        refine gw_callVi (As := [.int p1]) (rest := []) rfl (gc_X6_ridOf  hw) mX6_ridOf lmX6_177 oX6 clX6 rfl rfl ⟨Nat.le_of_ble_eq_true rfl, Nat.le_of_ble_eq_true rfl⟩ (Nat.le_of_ble_eq_true rfl) dX6_instead_92 (fun r_17 h_16 hw => ?_)
        refine gw_istore (ls' := [some (.ref (ad 0)), some (.int p1), none, some (.int x3), some (.int x4), some (.int x5), some (.int x6), some (.int r_17)]) dX6_instead_95 (Nat.le_of_ble_eq_true rfl) rfl ?_
        refine gw_iload dX6_instead_97 rfl ?_
        refine gw_if_lt (tgt := 125) dX6_instead_99 (by decide) (fun c_18 => ?_) (fun c_18 => ?_)
        · have hw := hw.1 c_18
          refine gw_forget (ls' := [some (.ref (ad 0)), some (.int p1), none, some (.int x3), some (.int x4), some (.int x5), some (.int x6), none]) (gw_sub.s (gw_sub.s (gw_sub.n (gw_sub.s (gw_sub.s (gw_sub.s (gw_sub.s (gw_sub.n gw_sub.z)))))))) ?_
          exact tk_X6_instead_125   ih x3 x4 x5 x6 h_16 hw
        · have hw := hw.2 c_18
          refine gw_iload dX6_instead_102 rfl ?_
          refine gw_if_lt (tgt := 117) dX6_instead_104 (by decide) (fun c_19 => ?_) (fun c_19 => ?_)
          · have hw := hw.1 c_19
            refine gw_forget (ls' := [some (.ref (ad 0)), some (.int p1), none, some (.int x3), none, none, some (.int x6), some (.int r_17)]) (gw_sub.s (gw_sub.s (gw_sub.n (gw_sub.s (gw_sub.n (gw_sub.n (gw_sub.s (gw_sub.s gw_sub.z)))))))) ?_
            exact tk_X6_instead_117   ih x3 x6 r_17 h_16 hw
          · have hw := hw.2 c_19
            refine gw_iload dX6_instead_107 rfl ?_
            refine gw_iload dX6_instead_109 rfl ?_
            refine gw_icmp_lt (tgt := 117) dX6_instead_111 (by decide) (fun c_20 => ?_) (fun c_20 => ?_)
            · have hw := hw.1 c_20
              refine gw_forget (ls' := [some (.ref (ad 0)), some (.int p1), none, some (.int x3), none, none, some (.int x6), some (.int r_17)]) (gw_sub.s (gw_sub.s (gw_sub.n (gw_sub.s (gw_sub.n (gw_sub.n (gw_sub.s (gw_sub.s gw_sub.z)))))))) ?_
              exact tk_X6_instead_117   ih x3 x6 r_17 h_16 hw
            · have hw := hw.2 c_20
              refine gw_goto (tgt := 125) dX6_instead_114 (by decide) ?_
              refine gw_forget (ls' := [some (.ref (ad 0)), some (.int p1), none, some (.int x3), some (.int x4), some (.int x5), some (.int x6), none]) (gw_sub.s (gw_sub.s (gw_sub.n (gw_sub.s (gw_sub.s (gw_sub.s (gw_sub.s (gw_sub.n gw_sub.z)))))))) ?_
              exact tk_X6_instead_125   ih x3 x4 x5 x6 h_16 hw
      · have hw := hw.2 c_14
        refine gw_goto (tgt := 125) dX6_instead_80 (by decide) ?_
        exact tk_X6_instead_125   ih x3 x4 x5 x6 h hw
def wk_X6_instead_27 (p1 : Int32)  (Q : Int32 → gw_H → Prop) : Int32 → gw_H → Prop :=
  fun s0 h => ((s0 = 0 → (wp_X6_begins h  (fun _ h_8 => (wp_X6_at h_8 p1 (3 : Int32) (fun r_10 h_9 => (wp_X6_ridOf h_9 p1 (fun r_12 h_11 => (∃ n_21 : Nat, wl_X6_instead_63 p1  Q n_21 r_10 r_12 (-9 : Int32) (0 : Int32) h_11)))))))) ∧ (¬ s0 = 0 → (wp_X6_refuse h s0 (fun r_23 h_22 => Q r_23 h_22))))
set_option maxRecDepth 100000 in
set_option maxHeartbeats 4000000 in
theorem tk_X6_instead_27 {l : Launch} {ad : Nat → Nat} {X : gw_X} {p1 : Int32}  {Q : Int32 → gw_H → Prop}   (s0 : Int32) (h : gw_H) (hw : wk_X6_instead_27 p1  Q s0 h) : gw_G l vM ad cX6_instead RX6 8 (some .int) 6 136 Q X h 27 [some (.ref (ad 0)), some (.int p1), none, none, none, none, none, none] [.int s0] := by
  unfold wk_X6_instead_27 at hw
  refine gw_istore_n (ls' := [some (.ref (ad 0)), some (.int p1), some (.int s0), none, none, none, none, none]) dX6_instead_27 rfl (Nat.le_of_ble_eq_true rfl) rfl ?_
  refine gw_iload_n dX6_instead_28 rfl rfl ?_
  refine gw_if_eq (tgt := 38) dX6_instead_29 (by decide) (fun c_7 => ?_) (fun c_7 => ?_)
  · have hw := hw.1 c_7
    refine gw_aload_n dX6_instead_38 rfl rfl ?_
    refine gw_callVv (As := []) (rest := []) rfl (gc_X6_begins  hw) mX6_begins lmX6_96 oX6 clX6 rfl rfl ⟨Nat.le_of_ble_eq_true rfl, Nat.le_of_ble_eq_true rfl⟩ (Nat.le_of_ble_eq_true rfl) dX6_instead_39 (fun h_8 hw => ?_)
    refine gw_aload_n dX6_instead_42 rfl rfl ?_
    refine gw_iload_n dX6_instead_43 rfl rfl ?_
    refine gw_iconst dX6_instead_44 ic_3 ?_
    refine gw_callVi (As := [.int p1, .int (3 : Int32)]) (rest := []) rfl (gc_X6_at  hw) mX6_at lmX6_61 oX6 clX6 rfl rfl ⟨Nat.le_of_ble_eq_true rfl, Nat.le_of_ble_eq_true rfl⟩ (Nat.le_of_ble_eq_true rfl) dX6_instead_45 (fun r_10 h_9 hw => ?_)
    refine gw_istore_n (ls' := [some (.ref (ad 0)), some (.int p1), some (.int s0), some (.int r_10), none, none, none, none]) dX6_instead_48 rfl (Nat.le_of_ble_eq_true rfl) rfl ?_
    refine gw_aload_n dX6_instead_49 rfl rfl ?_
    refine gw_iload_n dX6_instead_50 rfl rfl ?_
    refine gw_callVi (As := [.int p1]) (rest := []) rfl (gc_X6_ridOf  hw) mX6_ridOf lmX6_177 oX6 clX6 rfl rfl ⟨Nat.le_of_ble_eq_true rfl, Nat.le_of_ble_eq_true rfl⟩ (Nat.le_of_ble_eq_true rfl) dX6_instead_51 (fun r_12 h_11 hw => ?_)
    refine gw_istore (ls' := [some (.ref (ad 0)), some (.int p1), some (.int s0), some (.int r_10), some (.int r_12), none, none, none]) dX6_instead_54 (Nat.le_of_ble_eq_true rfl) rfl ?_
    refine gw_bipush dX6_instead_56 bp_m9 ?_
    refine gw_istore (ls' := [some (.ref (ad 0)), some (.int p1), some (.int s0), some (.int r_10), some (.int r_12), some (.int (-9 : Int32)), none, none]) dX6_instead_58 (Nat.le_of_ble_eq_true rfl) rfl ?_
    refine gw_iconst dX6_instead_60 ic_0 ?_
    refine gw_istore (ls' := [some (.ref (ad 0)), some (.int p1), some (.int s0), some (.int r_10), some (.int r_12), some (.int (-9 : Int32)), some (.int (0 : Int32)), none]) dX6_instead_61 (Nat.le_of_ble_eq_true rfl) rfl ?_
    refine gw_forget (ls' := [some (.ref (ad 0)), some (.int p1), none, some (.int r_10), some (.int r_12), some (.int (-9 : Int32)), some (.int (0 : Int32)), none]) (gw_sub.s (gw_sub.s (gw_sub.n (gw_sub.s (gw_sub.s (gw_sub.s (gw_sub.s (gw_sub.n gw_sub.z)))))))) ?_
    obtain ⟨n_21, hw⟩ := hw
    exact tl_X6_instead_63   n_21 r_10 r_12 (-9 : Int32) (0 : Int32) h_11 hw
  · have hw := hw.2 c_7
    refine gw_aload_n dX6_instead_32 rfl rfl ?_
    refine gw_iload_n dX6_instead_33 rfl rfl ?_
    refine gw_callVi (As := [.int s0]) (rest := []) rfl (gc_X6_refuse  hw) mX6_refuse lmX6_120 oX6 clX6 rfl rfl ⟨Nat.le_of_ble_eq_true rfl, Nat.le_of_ble_eq_true rfl⟩ (Nat.le_of_ble_eq_true rfl) dX6_instead_34 (fun r_23 h_22 hw => ?_)
    exact gw_ireturn (ty := .int) hw rfl rfl dX6_instead_37
def wp_X6_instead (h : gw_H) (p1 : Int32) (Q : Int32 → gw_H → Prop) : Prop :=
  (wp_X6_isHead h p1 (fun r_2 h_1 => ((¬ r_2 = 0 → (wp_X6_at h_1 p1 (3 : Int32) (fun r_5 h_4 => ((0 ≤ r_5 → (wk_X6_instead_27 p1  Q (0 : Int32) h_4)) ∧ (¬ 0 ≤ r_5 → (wk_X6_instead_27 p1  Q (-3 : Int32) h_4)))))) ∧ (r_2 = 0 → (wk_X6_instead_27 p1  Q (-1 : Int32) h_1)))))
set_option maxRecDepth 100000 in
set_option maxHeartbeats 4000000 in
theorem gc_X6_instead {l : Launch} {ad : Nat → Nat} {h : gw_H} {p1 : Int32} {Q : Int32 → gw_H → Prop}  (hw : wp_X6_instead h p1 Q) : gw_C l yX6_instead cX6_instead 8 (some .int) 6 136 vM ad [.ref (ad 0), .int p1] h Q := by
  refine gw_entry (own := RX6) [some (.ref (ad 0)), some (.int p1), none, none, none, none, none, none] pl_X6 rfl rfl (Nat.le_of_ble_eq_true rfl) rfl (fun X => ?_)
  unfold wp_X6_instead at hw
  refine gw_aload_n dX6_instead_0 rfl rfl ?_
  refine gw_iload_n dX6_instead_1 rfl rfl ?_
  refine gw_callVi (As := [.int p1]) (rest := []) rfl (gc_X6_isHead  hw) mX6_isHead lmX6_144 oX6 clX6 rfl rfl ⟨Nat.le_of_ble_eq_true rfl, Nat.le_of_ble_eq_true rfl⟩ (Nat.le_of_ble_eq_true rfl) dX6_instead_2 (fun r_2 h_1 hw => ?_)
  refine gw_if_ne (tgt := 12) dX6_instead_5 (by decide) (fun c_3 => ?_) (fun c_3 => ?_)
  · have hw := hw.1 c_3
    refine gw_aload_n dX6_instead_12 rfl rfl ?_
    refine gw_iload_n dX6_instead_13 rfl rfl ?_
    refine gw_iconst dX6_instead_14 ic_3 ?_
    refine gw_callVi (As := [.int p1, .int (3 : Int32)]) (rest := []) rfl (gc_X6_at  hw) mX6_at lmX6_61 oX6 clX6 rfl rfl ⟨Nat.le_of_ble_eq_true rfl, Nat.le_of_ble_eq_true rfl⟩ (Nat.le_of_ble_eq_true rfl) dX6_instead_15 (fun r_5 h_4 hw => ?_)
    refine gw_if_ge (tgt := 26) dX6_instead_18 (by decide) (fun c_6 => ?_) (fun c_6 => ?_)
    · have hw := hw.1 c_6
      refine gw_iconst dX6_instead_26 ic_0 ?_
      exact tk_X6_instead_27   (0 : Int32) h_4 hw
    · have hw := hw.2 c_6
      refine gw_bipush dX6_instead_21 bp_m3 ?_
      refine gw_goto (tgt := 27) dX6_instead_23 (by decide) ?_
      exact tk_X6_instead_27   (-3 : Int32) h_4 hw
  · have hw := hw.2 c_3
    refine gw_iconst dX6_instead_8 ic_m1 ?_
    refine gw_goto (tgt := 27) dX6_instead_9 (by decide) ?_
    exact tk_X6_instead_27   (-1 : Int32) h_1 hw
def wk_X6_isTold_26 (p1 : Int32)  (Q : Int32 → gw_H → Prop) : Int32 → Int32 → gw_H → Prop :=
  fun s0 s1 h => ((¬ s1 = s0 → Q (0 : Int32) h) ∧ (s1 = s0 → Q (1 : Int32) h))
set_option maxRecDepth 100000 in
set_option maxHeartbeats 4000000 in
theorem tk_X6_isTold_26 {l : Launch} {ad : Nat → Nat} {X : gw_X} {p1 : Int32}  {Q : Int32 → gw_H → Prop}   (s0 : Int32) (s1 : Int32) (h : gw_H) (hw : wk_X6_isTold_26 p1  Q s0 s1 h) : gw_G l vM ad cX6_isTold RX6 2 (some .boolean) 1 22 Q X h 26 [some (.ref (ad 0)), some (.int p1)] [.int s0, .int s1] := by
  unfold wk_X6_isTold_26 at hw
  refine gw_icmp_ne (tgt := 33) dX6_isTold_26 (by decide) (fun c_6 => ?_) (fun c_6 => ?_)
  · have hw := hw.1 c_6
    refine gw_iconst dX6_isTold_33 ic_0 ?_
    exact gw_ireturn (ty := .boolean) hw rfl rfl dX6_isTold_34
  · have hw := hw.2 c_6
    refine gw_iconst dX6_isTold_29 ic_1 ?_
    refine gw_goto (tgt := 34) dX6_isTold_30 (by decide) ?_
    exact gw_ireturn (ty := .boolean) hw rfl rfl dX6_isTold_34
def wp_X6_isTold (h : gw_H) (p1 : Int32) (Q : Int32 → gw_H → Prop) : Prop :=
  (vp_in p1 6 ∧ (wp_X6_at h p1 (3 : Int32) (fun r_2 h_1 => ((0 ≤ r_2 → (wp_X6_at h_1 p1 (3 : Int32) (fun r_5 h_4 => (wk_X6_isTold_26 p1  Q r_5 (h 13 p1.toNatClampNeg) h_4)))) ∧ (¬ 0 ≤ r_2 → (wk_X6_isTold_26 p1  Q (9 : Int32) (h 13 p1.toNatClampNeg) h_1))))))
set_option maxRecDepth 100000 in
set_option maxHeartbeats 4000000 in
theorem gc_X6_isTold {l : Launch} {ad : Nat → Nat} {h : gw_H} {p1 : Int32} {Q : Int32 → gw_H → Prop}  (hw : wp_X6_isTold h p1 Q) : gw_C l yX6_isTold cX6_isTold 2 (some .boolean) 1 22 vM ad [.ref (ad 0), .int p1] h Q := by
  refine gw_entry (own := RX6) [some (.ref (ad 0)), some (.int p1)] pl_X6 rfl rfl (Nat.le_of_ble_eq_true rfl) rfl (fun X => ?_)
  unfold wp_X6_isTold at hw
  refine gw_aload_n dX6_isTold_0 rfl rfl ?_
  refine gw_getf (k := 15) (v := .ref (ad 13)) oX6 clX6 inUX6 (Nat.le_of_ble_eq_true rfl) rfl lfX6_46 rfl dX6_isTold_1 ?_
  refine gw_iload_n dX6_isTold_4 rfl rfl ?_
  have q_7 := hw.1
  have hw := hw.2
  refine gw_iald am_13 q_7 rfl dX6_isTold_5 ?_
  refine gw_aload_n dX6_isTold_6 rfl rfl ?_
  refine gw_iload_n dX6_isTold_7 rfl rfl ?_
  refine gw_iconst dX6_isTold_8 ic_3 ?_
  refine gw_callVi (As := [.int p1, .int (3 : Int32)]) (rest := [.int (h 13 p1.toNatClampNeg)]) rfl (gc_X6_at  hw) mX6_at lmX6_61 oX6 clX6 rfl rfl ⟨Nat.le_of_ble_eq_true rfl, Nat.le_of_ble_eq_true rfl⟩ (Nat.le_of_ble_eq_true rfl) dX6_isTold_9 (fun r_2 h_1 hw => ?_)
  refine gw_if_ge (tgt := 20) dX6_isTold_12 (by decide) (fun c_3 => ?_) (fun c_3 => ?_)
  · have hw := hw.1 c_3
    refine gw_aload_n dX6_isTold_20 rfl rfl ?_
    refine gw_iload_n dX6_isTold_21 rfl rfl ?_
    refine gw_iconst dX6_isTold_22 ic_3 ?_
    refine gw_callVi (As := [.int p1, .int (3 : Int32)]) (rest := [.int (h 13 p1.toNatClampNeg)]) rfl (gc_X6_at  hw) mX6_at lmX6_61 oX6 clX6 rfl rfl ⟨Nat.le_of_ble_eq_true rfl, Nat.le_of_ble_eq_true rfl⟩ (Nat.le_of_ble_eq_true rfl) dX6_isTold_23 (fun r_5 h_4 hw => ?_)
    exact tk_X6_isTold_26   r_5 (h 13 p1.toNatClampNeg) h_4 hw
  · have hw := hw.2 c_3
    refine gw_bipush dX6_isTold_15 bp_9 ?_
    refine gw_goto (tgt := 26) dX6_isTold_17 (by decide) ?_
    exact tk_X6_isTold_26   (9 : Int32) (h 13 p1.toNatClampNeg) h_1 hw
def wl_X6_isAllTold_2   (Q : Int32 → gw_H → Prop) : Nat → Int32 → gw_H → Prop
  | 0 => fun _ _ => False
  | n + 1 => fun x1 h => (((h 2 3) ≤ x1 → Q (1 : Int32) h) ∧ (¬ (h 2 3) ≤ x1 → (wp_X6_isTold h x1 (fun r_3 h_2 => ((¬ r_3 = 0 → ((wl_X6_isAllTold_2   Q n) (x1 + (1 : Int32)) h_2)) ∧ (r_3 = 0 → Q (0 : Int32) h_2))))))
set_option maxRecDepth 100000 in
set_option maxHeartbeats 4000000 in
theorem tl_X6_isAllTold_2 {l : Launch} {ad : Nat → Nat} {X : gw_X}   {Q : Int32 → gw_H → Prop}   : ∀ (n : Nat) (x1 : Int32) (h : gw_H), wl_X6_isAllTold_2   Q n x1 h → gw_G l vM ad cX6_isAllTold RX6 2 (some .boolean) 2 43 Q X h 2 [some (.ref (ad 0)), some (.int x1)] [] := by
  intro n
  induction n with
  | zero => intro x1 h hw; exact hw.elim
  | succ n ih =>
    intro x1 h hw
    unfold wl_X6_isAllTold_2 at hw
    refine gw_iload_n dX6_isAllTold_2 rfl rfl ?_
    refine gw_aload_n dX6_isAllTold_3 rfl rfl ?_
    refine gw_getf (k := 1) (v := .ref (ad 2)) oX6 clX6 inUX6 (Nat.le_of_ble_eq_true rfl) rfl lfX6_13 rfl dX6_isAllTold_4 ?_
    refine gw_iconst dX6_isAllTold_7 ic_3 ?_
    refine gw_iald am_2 in_3_73 cl_3 dX6_isAllTold_8 ?_
    refine gw_icmp_ge (tgt := 28) dX6_isAllTold_9 (by decide) (fun c_1 => ?_) (fun c_1 => ?_)
    · have hw := hw.1 c_1
      refine gw_iconst dX6_isAllTold_28 ic_1 ?_
      exact gw_ireturn (ty := .boolean) hw rfl rfl dX6_isAllTold_29
    · have hw := hw.2 c_1
      refine gw_aload_n dX6_isAllTold_12 rfl rfl ?_
      refine gw_iload_n dX6_isAllTold_13 rfl rfl ?_
      refine gw_callVi (As := [.int x1]) (rest := []) rfl (gc_X6_isTold  hw) mX6_isTold lmX6_183 oX6 clX6 rfl rfl ⟨Nat.le_of_ble_eq_true rfl, Nat.le_of_ble_eq_true rfl⟩ (Nat.le_of_ble_eq_true rfl) dX6_isAllTold_14 (fun r_3 h_2 hw => ?_)
      refine gw_if_ne (tgt := 22) dX6_isAllTold_17 (by decide) (fun c_4 => ?_) (fun c_4 => ?_)
      · have hw := hw.1 c_4
        refine gw_iinc (ls' := [some (.ref (ad 0)), some (.int (x1 + (1 : Int32)))]) dX6_isAllTold_22 rfl (congrArg (fun z => x1 + z) ic_1) (Nat.le_of_ble_eq_true rfl) rfl ?_
        refine gw_goto (tgt := 2) dX6_isAllTold_25 (by decide) ?_
        exact ih (x1 + (1 : Int32)) h_2 hw
      · have hw := hw.2 c_4
        refine gw_iconst dX6_isAllTold_20 ic_0 ?_
        exact gw_ireturn (ty := .boolean) hw rfl rfl dX6_isAllTold_21
def wp_X6_isAllTold (h : gw_H)  (Q : Int32 → gw_H → Prop) : Prop :=
  (∃ n_5 : Nat, wl_X6_isAllTold_2   Q n_5 (0 : Int32) h)
set_option maxRecDepth 100000 in
set_option maxHeartbeats 4000000 in
theorem gc_X6_isAllTold {l : Launch} {ad : Nat → Nat} {h : gw_H}  {Q : Int32 → gw_H → Prop}  (hw : wp_X6_isAllTold h  Q) : gw_C l yX6_isAllTold cX6_isAllTold 2 (some .boolean) 2 43 vM ad [.ref (ad 0)] h Q := by
  refine gw_entry (own := RX6) [some (.ref (ad 0)), none] pl_X6 rfl rfl (Nat.le_of_ble_eq_true rfl) rfl (fun X => ?_)
  unfold wp_X6_isAllTold at hw
  refine gw_iconst dX6_isAllTold_0 ic_0 ?_
  refine gw_istore_n (ls' := [some (.ref (ad 0)), some (.int (0 : Int32))]) dX6_isAllTold_1 rfl (Nat.le_of_ble_eq_true rfl) rfl ?_
  obtain ⟨n_5, hw⟩ := hw
  exact tl_X6_isAllTold_2   n_5 (0 : Int32) h hw
def wl_X6_judge_12   (Q : Int32 → gw_H → Prop) : Nat → Int32 → Int32 → gw_H → Prop
  | 0 => fun _ _ _ => False
  | n + 1 => fun x1 x2 h => ((x1 ≤ x2 → (((h 2 3) ≤ x1 → Q (-9 : Int32) h) ∧ (¬ (h 2 3) ≤ x1 → Q x1 h))) ∧ (¬ x1 ≤ x2 → ((x2 = (h 2 3) → Q x2 h) ∧ (¬ x2 = (h 2 3) → (wp_X6_isTold h x2 (fun r_5 h_4 => ((¬ r_5 = 0 → ((wl_X6_judge_12   Q n) x1 (x2 + (1 : Int32)) h_4)) ∧ (r_5 = 0 → Q x2 h_4))))))))
set_option maxRecDepth 100000 in
set_option maxHeartbeats 4000000 in
theorem tl_X6_judge_12 {l : Launch} {ad : Nat → Nat} {X : gw_X}   {Q : Int32 → gw_H → Prop}   : ∀ (n : Nat) (x1 : Int32) (x2 : Int32) (h : gw_H), wl_X6_judge_12   Q n x1 x2 h → gw_G l vM ad cX6_judge RX6 3 (some .int) 2 43 Q X h 12 [some (.ref (ad 0)), some (.int x1), some (.int x2)] [] := by
  intro n
  induction n with
  | zero => intro x1 x2 h hw; exact hw.elim
  | succ n ih =>
    intro x1 x2 h hw
    unfold wl_X6_judge_12 at hw
    refine gw_iload_n dX6_judge_12 rfl rfl ?_
    refine gw_iload_n dX6_judge_13 rfl rfl ?_
    refine gw_icmp_ge (tgt := 43) dX6_judge_14 (by decide) (fun c_1 => ?_) (fun c_1 => ?_)
    · have hw := hw.1 c_1
      refine gw_iload_n dX6_judge_43 rfl rfl ?_
      refine gw_aload_n dX6_judge_44 rfl rfl ?_
      refine gw_getf (k := 1) (v := .ref (ad 2)) oX6 clX6 inUX6 (Nat.le_of_ble_eq_true rfl) rfl lfX6_13 rfl dX6_judge_45 ?_
      refine gw_iconst dX6_judge_48 ic_3 ?_
      refine gw_iald am_2 in_3_73 cl_3 dX6_judge_49 ?_
      refine gw_icmp_ge (tgt := 57) dX6_judge_50 (by decide) (fun c_2 => ?_) (fun c_2 => ?_)
      · have hw := hw.1 c_2
        refine gw_bipush dX6_judge_57 bp_m9 ?_
        exact gw_ireturn (ty := .int) hw rfl rfl dX6_judge_59
      · have hw := hw.2 c_2
        refine gw_iload_n dX6_judge_53 rfl rfl ?_
        refine gw_goto (tgt := 59) dX6_judge_54 (by decide) ?_
        exact gw_ireturn (ty := .int) hw rfl rfl dX6_judge_59
    · have hw := hw.2 c_1
      refine gw_iload_n dX6_judge_17 rfl rfl ?_
      refine gw_aload_n dX6_judge_18 rfl rfl ?_
      refine gw_getf (k := 1) (v := .ref (ad 2)) oX6 clX6 inUX6 (Nat.le_of_ble_eq_true rfl) rfl lfX6_13 rfl dX6_judge_19 ?_
      refine gw_iconst dX6_judge_22 ic_3 ?_
      refine gw_iald am_2 in_3_73 cl_3 dX6_judge_23 ?_
      refine gw_icmp_eq (tgt := 35) dX6_judge_24 (by decide) (fun c_3 => ?_) (fun c_3 => ?_)
      · have hw := hw.1 c_3
        refine gw_iload_n dX6_judge_35 rfl rfl ?_
        exact gw_ireturn (ty := .int) hw rfl rfl dX6_judge_36
      · have hw := hw.2 c_3
        refine gw_aload_n dX6_judge_27 rfl rfl ?_
        refine gw_iload_n dX6_judge_28 rfl rfl ?_
        refine gw_callVi (As := [.int x2]) (rest := []) rfl (gc_X6_isTold  hw) mX6_isTold lmX6_183 oX6 clX6 rfl rfl ⟨Nat.le_of_ble_eq_true rfl, Nat.le_of_ble_eq_true rfl⟩ (Nat.le_of_ble_eq_true rfl) dX6_judge_29 (fun r_5 h_4 hw => ?_)
        refine gw_if_ne (tgt := 37) dX6_judge_32 (by decide) (fun c_6 => ?_) (fun c_6 => ?_)
        · have hw := hw.1 c_6
          refine gw_iinc (ls' := [some (.ref (ad 0)), some (.int x1), some (.int (x2 + (1 : Int32)))]) dX6_judge_37 rfl (congrArg (fun z => x2 + z) ic_1) (Nat.le_of_ble_eq_true rfl) rfl ?_
          refine gw_goto (tgt := 12) dX6_judge_40 (by decide) ?_
          exact ih x1 (x2 + (1 : Int32)) h_4 hw
        · have hw := hw.2 c_6
          refine gw_iload_n dX6_judge_35 rfl rfl ?_
          exact gw_ireturn (ty := .int) hw rfl rfl dX6_judge_36
def wp_X6_judge (h : gw_H)  (Q : Int32 → gw_H → Prop) : Prop :=
  (∃ n_7 : Nat, wl_X6_judge_12   Q n_7 (h 0 16) (0 : Int32) (gw_up h 0 16 (0 : Int32)))
set_option maxRecDepth 100000 in
set_option maxHeartbeats 4000000 in
theorem gc_X6_judge {l : Launch} {ad : Nat → Nat} {h : gw_H}  {Q : Int32 → gw_H → Prop}  (hw : wp_X6_judge h  Q) : gw_C l yX6_judge cX6_judge 3 (some .int) 2 43 vM ad [.ref (ad 0)] h Q := by
  refine gw_entry (own := RX6) [some (.ref (ad 0)), none, none] pl_X6 rfl rfl (Nat.le_of_ble_eq_true rfl) rfl (fun X => ?_)
  unfold wp_X6_judge at hw
  refine gw_aload_n dX6_judge_0 rfl rfl ?_
  refine gw_getf (k := 16) (v := .int (h 0 16)) oX6 clX6 inUX6 (Nat.le_of_ble_eq_true rfl) rfl lfX6_180 rfl dX6_judge_1 ?_
  refine gw_istore_n (ls' := [some (.ref (ad 0)), some (.int (h 0 16)), none]) dX6_judge_4 rfl (Nat.le_of_ble_eq_true rfl) rfl ?_
  refine gw_aload_n dX6_judge_5 rfl rfl ?_
  refine gw_iconst dX6_judge_6 ic_0 ?_
  refine gw_putf (k := 16) (ty := .int) oX6 clX6 inUX6 tyX6_ok nmX6 (Nat.le_of_ble_eq_true rfl) rfl lfX6_180 (by decide +kernel) rfl rfl st_X6_16 dX6_judge_7 ?_
  refine gw_iconst dX6_judge_10 ic_0 ?_
  refine gw_istore_n (ls' := [some (.ref (ad 0)), some (.int (h 0 16)), some (.int (0 : Int32))]) dX6_judge_11 rfl (Nat.le_of_ble_eq_true rfl) rfl ?_
  obtain ⟨n_7, hw⟩ := hw
  exact tl_X6_judge_12   n_7 (h 0 16) (0 : Int32) (gw_up h 0 16 (0 : Int32)) hw
def wk_X6_lasts_87 (p1 : Int32) (K36 : Int32 → Int32 → Int32 → gw_H → Prop) (Q : Int32 → gw_H → Prop) : Int32 → Int32 → Int32 → gw_H → Prop :=
  fun x3 x5 s0 h => (K36 x3 s0 (x5 + (1 : Int32)) h)
set_option maxRecDepth 100000 in
set_option maxHeartbeats 4000000 in
theorem tk_X6_lasts_87 {l : Launch} {ad : Nat → Nat} {X : gw_X} {p1 : Int32} {K36 : Int32 → Int32 → Int32 → gw_H → Prop} {Q : Int32 → gw_H → Prop}  (hK36 : ∀ (y3 : Int32) (y4 : Int32) (y5 : Int32) (h : gw_H), K36 y3 y4 y5 h → gw_G l vM ad cX6_lasts RX6 6 (some .int) 6 135 Q X h 36 [some (.ref (ad 0)), some (.int p1), none, some (.int y3), some (.int y4), some (.int y5)] []) (x3 : Int32) (x5 : Int32) (s0 : Int32) (h : gw_H) (hw : wk_X6_lasts_87 p1 K36 Q x3 x5 s0 h) : gw_G l vM ad cX6_lasts RX6 6 (some .int) 6 135 Q X h 87 [some (.ref (ad 0)), some (.int p1), none, some (.int x3), none, some (.int x5)] [.int s0] := by
  unfold wk_X6_lasts_87 at hw
  refine gw_istore (ls' := [some (.ref (ad 0)), some (.int p1), none, some (.int x3), some (.int s0), some (.int x5)]) dX6_lasts_87 (Nat.le_of_ble_eq_true rfl) rfl ?_
  refine gw_iinc (ls' := [some (.ref (ad 0)), some (.int p1), none, some (.int x3), some (.int s0), some (.int (x5 + (1 : Int32)))]) dX6_lasts_89 rfl (congrArg (fun z => x5 + z) ic_1) (Nat.le_of_ble_eq_true rfl) rfl ?_
  refine gw_goto (tgt := 36) dX6_lasts_92 (by decide) ?_
  exact hK36 x3 s0 (x5 + (1 : Int32)) h hw
def wk_X6_lasts_64 (p1 : Int32) (K36 : Int32 → Int32 → Int32 → gw_H → Prop) (Q : Int32 → gw_H → Prop) : Int32 → Int32 → Int32 → gw_H → Prop :=
  fun x4 x5 s0 h => (wp_X6_haveIt h x5 (fun r_12 h_11 => ((r_12 ≤ x4 → (wk_X6_lasts_87 p1 K36 Q s0 x5 x4 h_11)) ∧ (¬ r_12 ≤ x4 → (wp_X6_haveIt h_11 x5 (fun r_15 h_14 => (wk_X6_lasts_87 p1 K36 Q s0 x5 r_15 h_14)))))))
set_option maxRecDepth 100000 in
set_option maxHeartbeats 4000000 in
theorem tk_X6_lasts_64 {l : Launch} {ad : Nat → Nat} {X : gw_X} {p1 : Int32} {K36 : Int32 → Int32 → Int32 → gw_H → Prop} {Q : Int32 → gw_H → Prop}  (hK36 : ∀ (y3 : Int32) (y4 : Int32) (y5 : Int32) (h : gw_H), K36 y3 y4 y5 h → gw_G l vM ad cX6_lasts RX6 6 (some .int) 6 135 Q X h 36 [some (.ref (ad 0)), some (.int p1), none, some (.int y3), some (.int y4), some (.int y5)] []) (x4 : Int32) (x5 : Int32) (s0 : Int32) (h : gw_H) (hw : wk_X6_lasts_64 p1 K36 Q x4 x5 s0 h) : gw_G l vM ad cX6_lasts RX6 6 (some .int) 6 135 Q X h 64 [some (.ref (ad 0)), some (.int p1), none, none, some (.int x4), some (.int x5)] [.int s0] := by
  unfold wk_X6_lasts_64 at hw
  refine gw_istore_n (ls' := [some (.ref (ad 0)), some (.int p1), none, some (.int s0), some (.int x4), some (.int x5)]) dX6_lasts_64 rfl (Nat.le_of_ble_eq_true rfl) rfl ?_
  refine gw_aload_n dX6_lasts_65 rfl rfl ?_
  refine gw_iload dX6_lasts_66 rfl ?_
  refine gw_callVi (As := [.int x5]) (rest := []) rfl (gc_X6_haveIt  hw) mX6_haveIt lmX6_106 oX6 clX6 rfl rfl ⟨Nat.le_of_ble_eq_true rfl, Nat.le_of_ble_eq_true rfl⟩ (Nat.le_of_ble_eq_true rfl) dX6_lasts_68 (fun r_12 h_11 hw => ?_)
  refine gw_iload dX6_lasts_71 rfl ?_
  refine gw_icmp_le (tgt := 85) dX6_lasts_73 (by decide) (fun c_13 => ?_) (fun c_13 => ?_)
  · have hw := hw.1 c_13
    refine gw_iload dX6_lasts_85 rfl ?_
    refine gw_forget (ls' := [some (.ref (ad 0)), some (.int p1), none, some (.int s0), none, some (.int x5)]) (gw_sub.s (gw_sub.s (gw_sub.n (gw_sub.s (gw_sub.n (gw_sub.s gw_sub.z)))))) ?_
    exact tk_X6_lasts_87  hK36 s0 x5 x4 h_11 hw
  · have hw := hw.2 c_13
    refine gw_aload_n dX6_lasts_76 rfl rfl ?_
    refine gw_iload dX6_lasts_77 rfl ?_
    refine gw_callVi (As := [.int x5]) (rest := []) rfl (gc_X6_haveIt  hw) mX6_haveIt lmX6_106 oX6 clX6 rfl rfl ⟨Nat.le_of_ble_eq_true rfl, Nat.le_of_ble_eq_true rfl⟩ (Nat.le_of_ble_eq_true rfl) dX6_lasts_79 (fun r_15 h_14 hw => ?_)
    refine gw_goto (tgt := 87) dX6_lasts_82 (by decide) ?_
    refine gw_forget (ls' := [some (.ref (ad 0)), some (.int p1), none, some (.int s0), none, some (.int x5)]) (gw_sub.s (gw_sub.s (gw_sub.n (gw_sub.s (gw_sub.n (gw_sub.s gw_sub.z)))))) ?_
    exact tk_X6_lasts_87  hK36 s0 x5 r_15 h_14 hw
def wl_X6_lasts_36 (p1 : Int32)  (Q : Int32 → gw_H → Prop) : Nat → Int32 → Int32 → Int32 → gw_H → Prop
  | 0 => fun _ _ _ _ => False
  | n + 1 => fun x3 x4 x5 h => (((h 2 2) ≤ x5 → (wp_X6_ends h  (fun _ h_7 => Q x3 h_7))) ∧ (¬ (h 2 2) ≤ x5 → (wp_X6_haveIt h x5 (fun r_9 h_8 => ((r_9 ≤ x4 → (wk_X6_lasts_64 p1 (wl_X6_lasts_36 p1  Q n) Q x4 x5 x3 h_8)) ∧ (¬ r_9 ≤ x4 → (wk_X6_lasts_64 p1 (wl_X6_lasts_36 p1  Q n) Q x4 x5 x5 h_8)))))))
set_option maxRecDepth 100000 in
set_option maxHeartbeats 4000000 in
theorem tl_X6_lasts_36 {l : Launch} {ad : Nat → Nat} {X : gw_X} {p1 : Int32}  {Q : Int32 → gw_H → Prop}   : ∀ (n : Nat) (x3 : Int32) (x4 : Int32) (x5 : Int32) (h : gw_H), wl_X6_lasts_36 p1  Q n x3 x4 x5 h → gw_G l vM ad cX6_lasts RX6 6 (some .int) 6 135 Q X h 36 [some (.ref (ad 0)), some (.int p1), none, some (.int x3), some (.int x4), some (.int x5)] [] := by
  intro n
  induction n with
  | zero => intro x3 x4 x5 h hw; exact hw.elim
  | succ n ih =>
    intro x3 x4 x5 h hw
    unfold wl_X6_lasts_36 at hw
    refine gw_iload dX6_lasts_36 rfl ?_
    refine gw_aload_n dX6_lasts_38 rfl rfl ?_
    refine gw_getf (k := 1) (v := .ref (ad 2)) oX6 clX6 inUX6 (Nat.le_of_ble_eq_true rfl) rfl lfX6_13 rfl dX6_lasts_39 ?_
    refine gw_iconst dX6_lasts_42 ic_2 ?_
    refine gw_iald am_2 in_2_73 cl_2 dX6_lasts_43 ?_
    refine gw_icmp_ge (tgt := 95) dX6_lasts_44 (by decide) (fun c_6 => ?_) (fun c_6 => ?_)
    · have hw := hw.1 c_6
      refine gw_aload_n dX6_lasts_95 rfl rfl ?_
      refine gw_callVv (As := []) (rest := []) rfl (gc_X6_ends  hw) mX6_ends lmX6_109 oX6 clX6 rfl rfl ⟨Nat.le_of_ble_eq_true rfl, Nat.le_of_ble_eq_true rfl⟩ (Nat.le_of_ble_eq_true rfl) dX6_lasts_96 (fun h_7 hw => ?_)
      refine gw_iload_n dX6_lasts_99 rfl rfl ?_
      exact gw_ireturn (ty := .int) hw rfl rfl dX6_lasts_100
    · have hw := hw.2 c_6
      refine gw_aload_n dX6_lasts_47 rfl rfl ?_
      refine gw_iload dX6_lasts_48 rfl ?_
      refine gw_callVi (As := [.int x5]) (rest := []) rfl (gc_X6_haveIt  hw) mX6_haveIt lmX6_106 oX6 clX6 rfl rfl ⟨Nat.le_of_ble_eq_true rfl, Nat.le_of_ble_eq_true rfl⟩ (Nat.le_of_ble_eq_true rfl) dX6_lasts_50 (fun r_9 h_8 hw => ?_)
      refine gw_iload dX6_lasts_53 rfl ?_
      refine gw_icmp_le (tgt := 63) dX6_lasts_55 (by decide) (fun c_10 => ?_) (fun c_10 => ?_)
      · have hw := hw.1 c_10
        refine gw_iload_n dX6_lasts_63 rfl rfl ?_
        refine gw_forget (ls' := [some (.ref (ad 0)), some (.int p1), none, none, some (.int x4), some (.int x5)]) (gw_sub.s (gw_sub.s (gw_sub.n (gw_sub.n (gw_sub.s (gw_sub.s gw_sub.z)))))) ?_
        exact tk_X6_lasts_64   ih x4 x5 x3 h_8 hw
      · have hw := hw.2 c_10
        refine gw_iload dX6_lasts_58 rfl ?_
        refine gw_goto (tgt := 64) dX6_lasts_60 (by decide) ?_
        refine gw_forget (ls' := [some (.ref (ad 0)), some (.int p1), none, none, some (.int x4), some (.int x5)]) (gw_sub.s (gw_sub.s (gw_sub.n (gw_sub.n (gw_sub.s (gw_sub.s gw_sub.z)))))) ?_
        exact tk_X6_lasts_64   ih x4 x5 x5 h_8 hw
def wp_X6_lasts (h : gw_H) (p1 : Int32) (Q : Int32 → gw_H → Prop) : Prop :=
  (wp_X6_within h p1 (0 : Int32) (60 : Int32) (fun r_2 h_1 => ((r_2 = 0 → (wp_X6_begins h_1  (fun _ h_4 => (wp_X6_goesFor h_4 p1 (fun _ h_5 => (∃ n_16 : Nat, wl_X6_lasts_36 p1  Q n_16 (-9 : Int32) (0 : Int32) (0 : Int32) h_5)))))) ∧ (¬ r_2 = 0 → (wp_X6_refuse h_1 r_2 (fun r_18 h_17 => Q r_18 h_17))))))
set_option maxRecDepth 100000 in
set_option maxHeartbeats 4000000 in
theorem gc_X6_lasts {l : Launch} {ad : Nat → Nat} {h : gw_H} {p1 : Int32} {Q : Int32 → gw_H → Prop}  (hw : wp_X6_lasts h p1 Q) : gw_C l yX6_lasts cX6_lasts 6 (some .int) 6 135 vM ad [.ref (ad 0), .int p1] h Q := by
  refine gw_entry (own := RX6) [some (.ref (ad 0)), some (.int p1), none, none, none, none] pl_X6 rfl rfl (Nat.le_of_ble_eq_true rfl) rfl (fun X => ?_)
  unfold wp_X6_lasts at hw
  refine gw_iload_n dX6_lasts_0 rfl rfl ?_
  refine gw_iconst dX6_lasts_1 ic_0 ?_
  refine gw_bipush dX6_lasts_2 bp_60 ?_
  refine gw_callSi (As := [.int p1, .int (0 : Int32), .int (60 : Int32)]) (rest := []) rfl (gc_X6_within  hw) mX6_within lmX6_112 rfl rfl ⟨Nat.le_of_ble_eq_true rfl, Nat.le_of_ble_eq_true rfl⟩ (Nat.le_of_ble_eq_true rfl) dX6_lasts_4 (fun r_2 h_1 hw => ?_)
  refine gw_istore_n (ls' := [some (.ref (ad 0)), some (.int p1), some (.int r_2), none, none, none]) dX6_lasts_7 rfl (Nat.le_of_ble_eq_true rfl) rfl ?_
  refine gw_iload_n dX6_lasts_8 rfl rfl ?_
  refine gw_if_eq (tgt := 18) dX6_lasts_9 (by decide) (fun c_3 => ?_) (fun c_3 => ?_)
  · have hw := hw.1 c_3
    refine gw_aload_n dX6_lasts_18 rfl rfl ?_
    refine gw_callVv (As := []) (rest := []) rfl (gc_X6_begins  hw) mX6_begins lmX6_96 oX6 clX6 rfl rfl ⟨Nat.le_of_ble_eq_true rfl, Nat.le_of_ble_eq_true rfl⟩ (Nat.le_of_ble_eq_true rfl) dX6_lasts_19 (fun h_4 hw => ?_)
    refine gw_aload_n dX6_lasts_22 rfl rfl ?_
    refine gw_iload_n dX6_lasts_23 rfl rfl ?_
    refine gw_callVv (As := [.int p1]) (rest := []) rfl (gc_X6_goesFor  hw) mX6_goesFor lmX6_103 oX6 clX6 rfl rfl ⟨Nat.le_of_ble_eq_true rfl, Nat.le_of_ble_eq_true rfl⟩ (Nat.le_of_ble_eq_true rfl) dX6_lasts_24 (fun h_5 hw => ?_)
    refine gw_bipush dX6_lasts_27 bp_m9 ?_
    refine gw_istore_n (ls' := [some (.ref (ad 0)), some (.int p1), some (.int r_2), some (.int (-9 : Int32)), none, none]) dX6_lasts_29 rfl (Nat.le_of_ble_eq_true rfl) rfl ?_
    refine gw_iconst dX6_lasts_30 ic_0 ?_
    refine gw_istore (ls' := [some (.ref (ad 0)), some (.int p1), some (.int r_2), some (.int (-9 : Int32)), some (.int (0 : Int32)), none]) dX6_lasts_31 (Nat.le_of_ble_eq_true rfl) rfl ?_
    refine gw_iconst dX6_lasts_33 ic_0 ?_
    refine gw_istore (ls' := [some (.ref (ad 0)), some (.int p1), some (.int r_2), some (.int (-9 : Int32)), some (.int (0 : Int32)), some (.int (0 : Int32))]) dX6_lasts_34 (Nat.le_of_ble_eq_true rfl) rfl ?_
    refine gw_forget (ls' := [some (.ref (ad 0)), some (.int p1), none, some (.int (-9 : Int32)), some (.int (0 : Int32)), some (.int (0 : Int32))]) (gw_sub.s (gw_sub.s (gw_sub.n (gw_sub.s (gw_sub.s (gw_sub.s gw_sub.z)))))) ?_
    obtain ⟨n_16, hw⟩ := hw
    exact tl_X6_lasts_36   n_16 (-9 : Int32) (0 : Int32) (0 : Int32) h_5 hw
  · have hw := hw.2 c_3
    refine gw_aload_n dX6_lasts_12 rfl rfl ?_
    refine gw_iload_n dX6_lasts_13 rfl rfl ?_
    refine gw_callVi (As := [.int r_2]) (rest := []) rfl (gc_X6_refuse  hw) mX6_refuse lmX6_120 oX6 clX6 rfl rfl ⟨Nat.le_of_ble_eq_true rfl, Nat.le_of_ble_eq_true rfl⟩ (Nat.le_of_ble_eq_true rfl) dX6_lasts_14 (fun r_18 h_17 hw => ?_)
    exact gw_ireturn (ty := .int) hw rfl rfl dX6_lasts_17
def wk_X6_letter_25 (p1 : Int32)  (Q : Int32 → gw_H → Prop) : Int32 → gw_H → Prop :=
  fun x2 h => ((x2 = 0 → (vp_in (h 0 13) 96 ∧ Q ((gw_up (gw_up h 11 (h 0 13).toNatClampNeg p1) 0 13 (((gw_up h 11 (h 0 13).toNatClampNeg p1) 0 13) + (1 : Int32))) 0 13) (gw_up (gw_up h 11 (h 0 13).toNatClampNeg p1) 0 13 (((gw_up h 11 (h 0 13).toNatClampNeg p1) 0 13) + (1 : Int32))))) ∧ (¬ x2 = 0 → (wp_X6_refuse h x2 (fun r_7 h_6 => Q r_7 h_6))))
set_option maxRecDepth 100000 in
set_option maxHeartbeats 4000000 in
theorem tk_X6_letter_25 {l : Launch} {ad : Nat → Nat} {X : gw_X} {p1 : Int32}  {Q : Int32 → gw_H → Prop}   (x2 : Int32) (h : gw_H) (hw : wk_X6_letter_25 p1  Q x2 h) : gw_G l vM ad cX6_letter RX6 3 (some .int) 1 22 Q X h 25 [some (.ref (ad 0)), some (.int p1), some (.int x2)] [] := by
  unfold wk_X6_letter_25 at hw
  refine gw_iload_n dX6_letter_25 rfl rfl ?_
  refine gw_if_eq (tgt := 35) dX6_letter_26 (by decide) (fun c_4 => ?_) (fun c_4 => ?_)
  · have hw := hw.1 c_4
    refine gw_aload_n dX6_letter_35 rfl rfl ?_
    refine gw_getf (k := 11) (v := .ref (ad 11)) oX6 clX6 inUX6 (Nat.le_of_ble_eq_true rfl) rfl lfX6_40 rfl dX6_letter_36 ?_
    refine gw_aload_n dX6_letter_39 rfl rfl ?_
    refine gw_getf (k := 13) (v := .int (h 0 13)) oX6 clX6 inUX6 (Nat.le_of_ble_eq_true rfl) rfl lfX6_116 rfl dX6_letter_40 ?_
    refine gw_iload_n dX6_letter_43 rfl rfl ?_
    have q_5 := hw.1
    have hw := hw.2
    refine gw_iast am_11 q_5 rfl dX6_letter_44 ?_
    refine gw_aload_n dX6_letter_45 rfl rfl ?_
    refine gw_dup dX6_letter_46 rfl ?_
    refine gw_getf (k := 13) (v := .int ((gw_up h 11 (h 0 13).toNatClampNeg p1) 0 13)) oX6 clX6 inUX6 (Nat.le_of_ble_eq_true rfl) rfl lfX6_116 rfl dX6_letter_47 ?_
    refine gw_iconst dX6_letter_50 ic_1 ?_
    refine gw_iadd dX6_letter_51 ?_
    refine gw_putf (k := 13) (ty := .int) oX6 clX6 inUX6 tyX6_ok nmX6 (Nat.le_of_ble_eq_true rfl) rfl lfX6_116 (by decide +kernel) rfl rfl st_X6_13 dX6_letter_52 ?_
    refine gw_aload_n dX6_letter_55 rfl rfl ?_
    refine gw_getf (k := 13) (v := .int ((gw_up (gw_up h 11 (h 0 13).toNatClampNeg p1) 0 13 (((gw_up h 11 (h 0 13).toNatClampNeg p1) 0 13) + (1 : Int32))) 0 13)) oX6 clX6 inUX6 (Nat.le_of_ble_eq_true rfl) rfl lfX6_116 rfl dX6_letter_56 ?_
    exact gw_ireturn (ty := .int) hw rfl rfl dX6_letter_59
  · have hw := hw.2 c_4
    refine gw_aload_n dX6_letter_29 rfl rfl ?_
    refine gw_iload_n dX6_letter_30 rfl rfl ?_
    refine gw_callVi (As := [.int x2]) (rest := []) rfl (gc_X6_refuse  hw) mX6_refuse lmX6_120 oX6 clX6 rfl rfl ⟨Nat.le_of_ble_eq_true rfl, Nat.le_of_ble_eq_true rfl⟩ (Nat.le_of_ble_eq_true rfl) dX6_letter_31 (fun r_7 h_6 hw => ?_)
    exact gw_ireturn (ty := .int) hw rfl rfl dX6_letter_34
def wp_X6_letter (h : gw_H) (p1 : Int32) (Q : Int32 → gw_H → Prop) : Prop :=
  (wp_X6_within h p1 (0 : Int32) (255 : Int32) (fun r_2 h_1 => ((¬ r_2 = 0 → (wk_X6_letter_25 p1  Q r_2 h_1)) ∧ (r_2 = 0 → ((¬ (h_1 0 13) = (96 : Int32) → (wk_X6_letter_25 p1  Q r_2 h_1)) ∧ ((h_1 0 13) = (96 : Int32) → (wk_X6_letter_25 p1  Q (-6 : Int32) h_1)))))))
set_option maxRecDepth 100000 in
set_option maxHeartbeats 4000000 in
theorem gc_X6_letter {l : Launch} {ad : Nat → Nat} {h : gw_H} {p1 : Int32} {Q : Int32 → gw_H → Prop}  (hw : wp_X6_letter h p1 Q) : gw_C l yX6_letter cX6_letter 3 (some .int) 1 22 vM ad [.ref (ad 0), .int p1] h Q := by
  refine gw_entry (own := RX6) [some (.ref (ad 0)), some (.int p1), none] pl_X6 rfl rfl (Nat.le_of_ble_eq_true rfl) rfl (fun X => ?_)
  unfold wp_X6_letter at hw
  refine gw_iload_n dX6_letter_0 rfl rfl ?_
  refine gw_iconst dX6_letter_1 ic_0 ?_
  refine gw_sipush dX6_letter_2 sp_255 ?_
  refine gw_callSi (As := [.int p1, .int (0 : Int32), .int (255 : Int32)]) (rest := []) rfl (gc_X6_within  hw) mX6_within lmX6_112 rfl rfl ⟨Nat.le_of_ble_eq_true rfl, Nat.le_of_ble_eq_true rfl⟩ (Nat.le_of_ble_eq_true rfl) dX6_letter_5 (fun r_2 h_1 hw => ?_)
  refine gw_istore_n (ls' := [some (.ref (ad 0)), some (.int p1), some (.int r_2)]) dX6_letter_8 rfl (Nat.le_of_ble_eq_true rfl) rfl ?_
  refine gw_iload_n dX6_letter_9 rfl rfl ?_
  refine gw_if_ne (tgt := 25) dX6_letter_10 (by decide) (fun c_3 => ?_) (fun c_3 => ?_)
  · have hw := hw.1 c_3
    exact tk_X6_letter_25   r_2 h_1 hw
  · have hw := hw.2 c_3
    refine gw_aload_n dX6_letter_13 rfl rfl ?_
    refine gw_getf (k := 13) (v := .int (h_1 0 13)) oX6 clX6 inUX6 (Nat.le_of_ble_eq_true rfl) rfl lfX6_116 rfl dX6_letter_14 ?_
    refine gw_bipush dX6_letter_17 bp_96 ?_
    refine gw_icmp_ne (tgt := 25) dX6_letter_19 (by decide) (fun c_8 => ?_) (fun c_8 => ?_)
    · have hw := hw.1 c_8
      exact tk_X6_letter_25   r_2 h_1 hw
    · have hw := hw.2 c_8
      refine gw_bipush dX6_letter_22 bp_m6 ?_
      refine gw_istore_n (ls' := [some (.ref (ad 0)), some (.int p1), some (.int (-6 : Int32))]) dX6_letter_24 rfl (Nat.le_of_ble_eq_true rfl) rfl ?_
      exact tk_X6_letter_25   (-6 : Int32) h_1 hw
def wp_X6_loud (h : gw_H) (p1 : Int32) (Q : Int32 → gw_H → Prop) : Prop :=
  (wp_X6_within h p1 (1 : Int32) (20 : Int32) (fun r_2 h_1 => ((r_2 = 0 → Q (h_1 2 5) (gw_up h_1 2 5 p1)) ∧ (¬ r_2 = 0 → (wp_X6_refuse h_1 r_2 (fun r_5 h_4 => Q r_5 h_4))))))
set_option maxRecDepth 100000 in
set_option maxHeartbeats 4000000 in
theorem gc_X6_loud {l : Launch} {ad : Nat → Nat} {h : gw_H} {p1 : Int32} {Q : Int32 → gw_H → Prop}  (hw : wp_X6_loud h p1 Q) : gw_C l yX6_loud cX6_loud 4 (some .int) 1 22 vM ad [.ref (ad 0), .int p1] h Q := by
  refine gw_entry (own := RX6) [some (.ref (ad 0)), some (.int p1), none, none] pl_X6 rfl rfl (Nat.le_of_ble_eq_true rfl) rfl (fun X => ?_)
  unfold wp_X6_loud at hw
  refine gw_iload_n dX6_loud_0 rfl rfl ?_
  refine gw_iconst dX6_loud_1 ic_1 ?_
  refine gw_bipush dX6_loud_2 bp_20 ?_
  refine gw_callSi (As := [.int p1, .int (1 : Int32), .int (20 : Int32)]) (rest := []) rfl (gc_X6_within  hw) mX6_within lmX6_112 rfl rfl ⟨Nat.le_of_ble_eq_true rfl, Nat.le_of_ble_eq_true rfl⟩ (Nat.le_of_ble_eq_true rfl) dX6_loud_4 (fun r_2 h_1 hw => ?_)
  refine gw_istore_n (ls' := [some (.ref (ad 0)), some (.int p1), some (.int r_2), none]) dX6_loud_7 rfl (Nat.le_of_ble_eq_true rfl) rfl ?_
  refine gw_iload_n dX6_loud_8 rfl rfl ?_
  refine gw_if_eq (tgt := 18) dX6_loud_9 (by decide) (fun c_3 => ?_) (fun c_3 => ?_)
  · have hw := hw.1 c_3
    refine gw_aload_n dX6_loud_18 rfl rfl ?_
    refine gw_getf (k := 1) (v := .ref (ad 2)) oX6 clX6 inUX6 (Nat.le_of_ble_eq_true rfl) rfl lfX6_13 rfl dX6_loud_19 ?_
    refine gw_iconst dX6_loud_22 ic_5 ?_
    refine gw_iald am_2 in_5_73 cl_5 dX6_loud_23 ?_
    refine gw_istore_n (ls' := [some (.ref (ad 0)), some (.int p1), some (.int r_2), some (.int (h_1 2 5))]) dX6_loud_24 rfl (Nat.le_of_ble_eq_true rfl) rfl ?_
    refine gw_aload_n dX6_loud_25 rfl rfl ?_
    refine gw_getf (k := 1) (v := .ref (ad 2)) oX6 clX6 inUX6 (Nat.le_of_ble_eq_true rfl) rfl lfX6_13 rfl dX6_loud_26 ?_
    refine gw_iconst dX6_loud_29 ic_5 ?_
    refine gw_iload_n dX6_loud_30 rfl rfl ?_
    refine gw_iast am_2 in_5_73 cl_5 dX6_loud_31 ?_
    refine gw_iload_n dX6_loud_32 rfl rfl ?_
    exact gw_ireturn (ty := .int) hw rfl rfl dX6_loud_33
  · have hw := hw.2 c_3
    refine gw_aload_n dX6_loud_12 rfl rfl ?_
    refine gw_iload_n dX6_loud_13 rfl rfl ?_
    refine gw_callVi (As := [.int r_2]) (rest := []) rfl (gc_X6_refuse  hw) mX6_refuse lmX6_120 oX6 clX6 rfl rfl ⟨Nat.le_of_ble_eq_true rfl, Nat.le_of_ble_eq_true rfl⟩ (Nat.le_of_ble_eq_true rfl) dX6_loud_14 (fun r_5 h_4 hw => ?_)
    exact gw_ireturn (ty := .int) hw rfl rfl dX6_loud_17
def wk_X6_mends_42 (p1 : Int32) (p2 : Int32)  (Q : Int32 → gw_H → Prop) : Int32 → gw_H → Prop :=
  fun s0 h => ((0 < s0 → (wp_X6_puts h p1 (4 : Int32) s0 (fun _ h_7 => Q 0 h_7))) ∧ (¬ 0 < s0 → (wp_X6_gets h p1 (-9 : Int32) (fun _ h_8 => Q 0 h_8))))
set_option maxRecDepth 100000 in
set_option maxHeartbeats 4000000 in
theorem tk_X6_mends_42 {l : Launch} {ad : Nat → Nat} {X : gw_X} {p1 : Int32} {p2 : Int32}  {Q : Int32 → gw_H → Prop}   (s0 : Int32) (h : gw_H) (hw : wk_X6_mends_42 p1 p2  Q s0 h) : gw_G l vM ad cX6_mends RX6 4 none 3 67 Q X h 42 [some (.ref (ad 0)), some (.int p1), some (.int p2), none] [.int s0] := by
  unfold wk_X6_mends_42 at hw
  refine gw_istore_n (ls' := [some (.ref (ad 0)), some (.int p1), some (.int p2), some (.int s0)]) dX6_mends_42 rfl (Nat.le_of_ble_eq_true rfl) rfl ?_
  refine gw_iload_n dX6_mends_43 rfl rfl ?_
  refine gw_if_gt (tgt := 57) dX6_mends_44 (by decide) (fun c_6 => ?_) (fun c_6 => ?_)
  · have hw := hw.1 c_6
    refine gw_aload_n dX6_mends_57 rfl rfl ?_
    refine gw_iload_n dX6_mends_58 rfl rfl ?_
    refine gw_iconst dX6_mends_59 ic_4 ?_
    refine gw_iload_n dX6_mends_60 rfl rfl ?_
    refine gw_callVv (As := [.int p1, .int (4 : Int32), .int s0]) (rest := []) rfl (gc_X6_puts  hw) mX6_puts lmX6_64 oX6 clX6 rfl rfl ⟨Nat.le_of_ble_eq_true rfl, Nat.le_of_ble_eq_true rfl⟩ (Nat.le_of_ble_eq_true rfl) dX6_mends_61 (fun h_7 hw => ?_)
    exact gw_return hw rfl dX6_mends_64
  · have hw := hw.2 c_6
    refine gw_aload_n dX6_mends_47 rfl rfl ?_
    refine gw_iload_n dX6_mends_48 rfl rfl ?_
    refine gw_bipush dX6_mends_49 bp_m9 ?_
    refine gw_callVv (As := [.int p1, .int (-9 : Int32)]) (rest := []) rfl (gc_X6_gets  hw) mX6_gets lmX6_81 oX6 clX6 rfl rfl ⟨Nat.le_of_ble_eq_true rfl, Nat.le_of_ble_eq_true rfl⟩ (Nat.le_of_ble_eq_true rfl) dX6_mends_51 (fun h_8 hw => ?_)
    refine gw_goto (tgt := 64) dX6_mends_54 (by decide) ?_
    exact gw_return hw rfl dX6_mends_64
def wp_X6_mends (h : gw_H) (p1 : Int32) (p2 : Int32) (Q : Int32 → gw_H → Prop) : Prop :=
  ((¬ p2 = (3 : Int32) → ((¬ p2 = (2 : Int32) → ((¬ p2 = 0 → (wp_X6_at h p1 (4 : Int32) (fun r_5 h_4 => (wk_X6_mends_42 p1 p2  Q (r_5 - (4 : Int32)) h_4)))) ∧ (p2 = 0 → (wp_X6_at h p1 (4 : Int32) (fun r_10 h_9 => (wk_X6_mends_42 p1 p2  Q (r_10 / (2 : Int32)) h_9)))))) ∧ (p2 = (2 : Int32) → (wp_X6_puts h p1 (5 : Int32) (3 : Int32) (fun _ h_11 => Q 0 h_11))))) ∧ (p2 = (3 : Int32) → Q 0 h))
set_option maxRecDepth 100000 in
set_option maxHeartbeats 4000000 in
theorem gc_X6_mends {l : Launch} {ad : Nat → Nat} {h : gw_H} {p1 : Int32} {p2 : Int32} {Q : Int32 → gw_H → Prop}  (hw : wp_X6_mends h p1 p2 Q) : gw_C l yX6_mends cX6_mends 4 none 3 67 vM ad [.ref (ad 0), .int p1, .int p2] h Q := by
  refine gw_entry (own := RX6) [some (.ref (ad 0)), some (.int p1), some (.int p2), none] pl_X6 rfl rfl (Nat.le_of_ble_eq_true rfl) rfl (fun X => ?_)
  unfold wp_X6_mends at hw
  refine gw_iload_n dX6_mends_0 rfl rfl ?_
  refine gw_iconst dX6_mends_1 ic_3 ?_
  refine gw_icmp_ne (tgt := 6) dX6_mends_2 (by decide) (fun c_1 => ?_) (fun c_1 => ?_)
  · have hw := hw.1 c_1
    refine gw_iload_n dX6_mends_6 rfl rfl ?_
    refine gw_iconst dX6_mends_7 ic_2 ?_
    refine gw_icmp_ne (tgt := 19) dX6_mends_8 (by decide) (fun c_2 => ?_) (fun c_2 => ?_)
    · have hw := hw.1 c_2
      refine gw_iload_n dX6_mends_19 rfl rfl ?_
      refine gw_if_ne (tgt := 34) dX6_mends_20 (by decide) (fun c_3 => ?_) (fun c_3 => ?_)
      · have hw := hw.1 c_3
        refine gw_aload_n dX6_mends_34 rfl rfl ?_
        refine gw_iload_n dX6_mends_35 rfl rfl ?_
        refine gw_iconst dX6_mends_36 ic_4 ?_
        refine gw_callVi (As := [.int p1, .int (4 : Int32)]) (rest := []) rfl (gc_X6_at  hw) mX6_at lmX6_61 oX6 clX6 rfl rfl ⟨Nat.le_of_ble_eq_true rfl, Nat.le_of_ble_eq_true rfl⟩ (Nat.le_of_ble_eq_true rfl) dX6_mends_37 (fun r_5 h_4 hw => ?_)
        refine gw_iconst dX6_mends_40 ic_4 ?_
        refine gw_isub dX6_mends_41 ?_
        exact tk_X6_mends_42   (r_5 - (4 : Int32)) h_4 hw
      · have hw := hw.2 c_3
        refine gw_aload_n dX6_mends_23 rfl rfl ?_
        refine gw_iload_n dX6_mends_24 rfl rfl ?_
        refine gw_iconst dX6_mends_25 ic_4 ?_
        refine gw_callVi (As := [.int p1, .int (4 : Int32)]) (rest := []) rfl (gc_X6_at  hw) mX6_at lmX6_61 oX6 clX6 rfl rfl ⟨Nat.le_of_ble_eq_true rfl, Nat.le_of_ble_eq_true rfl⟩ (Nat.le_of_ble_eq_true rfl) dX6_mends_26 (fun r_10 h_9 hw => ?_)
        refine gw_iconst dX6_mends_29 ic_2 ?_
        refine gw_idiv dX6_mends_30 (by decide) ?_
        refine gw_goto (tgt := 42) dX6_mends_31 (by decide) ?_
        exact tk_X6_mends_42   (r_10 / (2 : Int32)) h_9 hw
    · have hw := hw.2 c_2
      refine gw_aload_n dX6_mends_11 rfl rfl ?_
      refine gw_iload_n dX6_mends_12 rfl rfl ?_
      refine gw_iconst dX6_mends_13 ic_5 ?_
      refine gw_iconst dX6_mends_14 ic_3 ?_
      refine gw_callVv (As := [.int p1, .int (5 : Int32), .int (3 : Int32)]) (rest := []) rfl (gc_X6_puts  hw) mX6_puts lmX6_64 oX6 clX6 rfl rfl ⟨Nat.le_of_ble_eq_true rfl, Nat.le_of_ble_eq_true rfl⟩ (Nat.le_of_ble_eq_true rfl) dX6_mends_15 (fun h_11 hw => ?_)
      exact gw_return hw rfl dX6_mends_18
  · have hw := hw.2 c_1
    exact gw_return hw rfl dX6_mends_5
def wk_X6_most_112 (p1 : Int32) (p2 : Int32) (p3 : Int32) (K69 : Int32 → Int32 → Int32 → gw_H → Prop) (Q : Int32 → gw_H → Prop) : Int32 → Int32 → Int32 → gw_H → Prop :=
  fun x5 x7 s0 h => (wp_X6_goes h  (fun r_15 h_14 => (K69 x5 s0 (x7 + (1 : Int32)) h_14)))
set_option maxRecDepth 100000 in
set_option maxHeartbeats 4000000 in
theorem tk_X6_most_112 {l : Launch} {ad : Nat → Nat} {X : gw_X} {p1 : Int32} {p2 : Int32} {p3 : Int32} {K69 : Int32 → Int32 → Int32 → gw_H → Prop} {Q : Int32 → gw_H → Prop}  (hK69 : ∀ (y5 : Int32) (y6 : Int32) (y7 : Int32) (h : gw_H), K69 y5 y6 y7 h → gw_G l vM ad cX6_most RX6 9 (some .int) 5 113 Q X h 69 [some (.ref (ad 0)), some (.int p1), some (.int p2), some (.int p3), none, some (.int y5), some (.int y6), some (.int y7), none] []) (x5 : Int32) (x7 : Int32) (s0 : Int32) (h : gw_H) (hw : wk_X6_most_112 p1 p2 p3 K69 Q x5 x7 s0 h) : gw_G l vM ad cX6_most RX6 9 (some .int) 5 113 Q X h 112 [some (.ref (ad 0)), some (.int p1), some (.int p2), some (.int p3), none, some (.int x5), none, some (.int x7), none] [.int s0] := by
  unfold wk_X6_most_112 at hw
  refine gw_istore (ls' := [some (.ref (ad 0)), some (.int p1), some (.int p2), some (.int p3), none, some (.int x5), some (.int s0), some (.int x7), none]) dX6_most_112 (Nat.le_of_ble_eq_true rfl) rfl ?_
  refine gw_aload_n dX6_most_114 rfl rfl ?_
  refine gw_callVi (As := []) (rest := []) rfl (gc_X6_goes  hw) mX6_goes lmX6_99 oX6 clX6 rfl rfl ⟨Nat.le_of_ble_eq_true rfl, Nat.le_of_ble_eq_true rfl⟩ (Nat.le_of_ble_eq_true rfl) dX6_most_115 (fun r_15 h_14 hw => ?_)
  refine gw_pop dX6_most_118 rfl ?_
  refine gw_iinc (ls' := [some (.ref (ad 0)), some (.int p1), some (.int p2), some (.int p3), none, some (.int x5), some (.int s0), some (.int (x7 + (1 : Int32))), none]) dX6_most_119 rfl (congrArg (fun z => x7 + z) ic_1) (Nat.le_of_ble_eq_true rfl) rfl ?_
  refine gw_goto (tgt := 69) dX6_most_122 (by decide) ?_
  exact hK69 x5 s0 (x7 + (1 : Int32)) h_14 hw
def wk_X6_most_96 (p1 : Int32) (p2 : Int32) (p3 : Int32) (K69 : Int32 → Int32 → Int32 → gw_H → Prop) (Q : Int32 → gw_H → Prop) : Int32 → Int32 → Int32 → Int32 → gw_H → Prop :=
  fun x6 x7 x8 s0 h => ((x8 ≤ x6 → (wk_X6_most_112 p1 p2 p3 K69 Q s0 x7 x6 h)) ∧ (¬ x8 ≤ x6 → (wk_X6_most_112 p1 p2 p3 K69 Q s0 x7 x8 h)))
set_option maxRecDepth 100000 in
set_option maxHeartbeats 4000000 in
theorem tk_X6_most_96 {l : Launch} {ad : Nat → Nat} {X : gw_X} {p1 : Int32} {p2 : Int32} {p3 : Int32} {K69 : Int32 → Int32 → Int32 → gw_H → Prop} {Q : Int32 → gw_H → Prop}  (hK69 : ∀ (y5 : Int32) (y6 : Int32) (y7 : Int32) (h : gw_H), K69 y5 y6 y7 h → gw_G l vM ad cX6_most RX6 9 (some .int) 5 113 Q X h 69 [some (.ref (ad 0)), some (.int p1), some (.int p2), some (.int p3), none, some (.int y5), some (.int y6), some (.int y7), none] []) (x6 : Int32) (x7 : Int32) (x8 : Int32) (s0 : Int32) (h : gw_H) (hw : wk_X6_most_96 p1 p2 p3 K69 Q x6 x7 x8 s0 h) : gw_G l vM ad cX6_most RX6 9 (some .int) 5 113 Q X h 96 [some (.ref (ad 0)), some (.int p1), some (.int p2), some (.int p3), none, none, some (.int x6), some (.int x7), some (.int x8)] [.int s0] := by
  unfold wk_X6_most_96 at hw
  refine gw_istore (ls' := [some (.ref (ad 0)), some (.int p1), some (.int p2), some (.int p3), none, some (.int s0), some (.int x6), some (.int x7), some (.int x8)]) dX6_most_96 (Nat.le_of_ble_eq_true rfl) rfl ?_
  refine gw_iload dX6_most_98 rfl ?_
  refine gw_iload dX6_most_100 rfl ?_
  refine gw_icmp_le (tgt := 110) dX6_most_102 (by decide) (fun c_13 => ?_) (fun c_13 => ?_)
  · have hw := hw.1 c_13
    refine gw_iload dX6_most_110 rfl ?_
    refine gw_forget (ls' := [some (.ref (ad 0)), some (.int p1), some (.int p2), some (.int p3), none, some (.int s0), none, some (.int x7), none]) (gw_sub.s (gw_sub.s (gw_sub.s (gw_sub.s (gw_sub.n (gw_sub.s (gw_sub.n (gw_sub.s (gw_sub.n gw_sub.z))))))))) ?_
    exact tk_X6_most_112  hK69 s0 x7 x6 h hw
  · have hw := hw.2 c_13
    refine gw_iload dX6_most_105 rfl ?_
    refine gw_goto (tgt := 112) dX6_most_107 (by decide) ?_
    refine gw_forget (ls' := [some (.ref (ad 0)), some (.int p1), some (.int p2), some (.int p3), none, some (.int s0), none, some (.int x7), none]) (gw_sub.s (gw_sub.s (gw_sub.s (gw_sub.s (gw_sub.n (gw_sub.s (gw_sub.n (gw_sub.s (gw_sub.n gw_sub.z))))))))) ?_
    exact tk_X6_most_112  hK69 s0 x7 x8 h hw
def wl_X6_most_69 (p1 : Int32) (p2 : Int32) (p3 : Int32)  (Q : Int32 → gw_H → Prop) : Nat → Int32 → Int32 → Int32 → gw_H → Prop
  | 0 => fun _ _ _ _ => False
  | n + 1 => fun x5 x6 x7 h => ((p2 < x7 → (wp_X6_ends h  (fun _ h_8 => ((¬ p3 = 0 → Q x6 h_8) ∧ (p3 = 0 → Q x5 h_8))))) ∧ (¬ p2 < x7 → (wp_X6_haveIt h p1 (fun r_11 h_10 => ((r_11 ≤ x6 → (wk_X6_most_96 p1 p2 p3 (wl_X6_most_69 p1 p2 p3  Q n) Q x6 x7 r_11 x5 h_10)) ∧ (¬ r_11 ≤ x6 → (wk_X6_most_96 p1 p2 p3 (wl_X6_most_69 p1 p2 p3  Q n) Q x6 x7 r_11 x7 h_10)))))))
set_option maxRecDepth 100000 in
set_option maxHeartbeats 4000000 in
theorem tl_X6_most_69 {l : Launch} {ad : Nat → Nat} {X : gw_X} {p1 : Int32} {p2 : Int32} {p3 : Int32}  {Q : Int32 → gw_H → Prop}   : ∀ (n : Nat) (x5 : Int32) (x6 : Int32) (x7 : Int32) (h : gw_H), wl_X6_most_69 p1 p2 p3  Q n x5 x6 x7 h → gw_G l vM ad cX6_most RX6 9 (some .int) 5 113 Q X h 69 [some (.ref (ad 0)), some (.int p1), some (.int p2), some (.int p3), none, some (.int x5), some (.int x6), some (.int x7), none] [] := by
  intro n
  induction n with
  | zero => intro x5 x6 x7 h hw; exact hw.elim
  | succ n ih =>
    intro x5 x6 x7 h hw
    unfold wl_X6_most_69 at hw
    refine gw_iload dX6_most_69 rfl ?_
    refine gw_iload_n dX6_most_71 rfl rfl ?_
    refine gw_icmp_gt (tgt := 125) dX6_most_72 (by decide) (fun c_7 => ?_) (fun c_7 => ?_)
    · have hw := hw.1 c_7
      refine gw_aload_n dX6_most_125 rfl rfl ?_
      refine gw_callVv (As := []) (rest := []) rfl (gc_X6_ends  hw) mX6_ends lmX6_109 oX6 clX6 rfl rfl ⟨Nat.le_of_ble_eq_true rfl, Nat.le_of_ble_eq_true rfl⟩ (Nat.le_of_ble_eq_true rfl) dX6_most_126 (fun h_8 hw => ?_)
      refine gw_iload_n dX6_most_129 rfl rfl ?_
      refine gw_if_ne (tgt := 138) dX6_most_130 (by decide) (fun c_9 => ?_) (fun c_9 => ?_)
      · have hw := hw.1 c_9
        refine gw_iload dX6_most_138 rfl ?_
        exact gw_ireturn (ty := .int) hw rfl rfl dX6_most_140
      · have hw := hw.2 c_9
        refine gw_iload dX6_most_133 rfl ?_
        refine gw_goto (tgt := 140) dX6_most_135 (by decide) ?_
        exact gw_ireturn (ty := .int) hw rfl rfl dX6_most_140
    · have hw := hw.2 c_7
      refine gw_aload_n dX6_most_75 rfl rfl ?_
      refine gw_iload_n dX6_most_76 rfl rfl ?_
      refine gw_callVi (As := [.int p1]) (rest := []) rfl (gc_X6_haveIt  hw) mX6_haveIt lmX6_106 oX6 clX6 rfl rfl ⟨Nat.le_of_ble_eq_true rfl, Nat.le_of_ble_eq_true rfl⟩ (Nat.le_of_ble_eq_true rfl) dX6_most_77 (fun r_11 h_10 hw => ?_)
      refine gw_istore (ls' := [some (.ref (ad 0)), some (.int p1), some (.int p2), some (.int p3), none, some (.int x5), some (.int x6), some (.int x7), some (.int r_11)]) dX6_most_80 (Nat.le_of_ble_eq_true rfl) rfl ?_
      refine gw_iload dX6_most_82 rfl ?_
      refine gw_iload dX6_most_84 rfl ?_
      refine gw_icmp_le (tgt := 94) dX6_most_86 (by decide) (fun c_12 => ?_) (fun c_12 => ?_)
      · have hw := hw.1 c_12
        refine gw_iload dX6_most_94 rfl ?_
        refine gw_forget (ls' := [some (.ref (ad 0)), some (.int p1), some (.int p2), some (.int p3), none, none, some (.int x6), some (.int x7), some (.int r_11)]) (gw_sub.s (gw_sub.s (gw_sub.s (gw_sub.s (gw_sub.n (gw_sub.n (gw_sub.s (gw_sub.s (gw_sub.s gw_sub.z))))))))) ?_
        exact tk_X6_most_96   ih x6 x7 r_11 x5 h_10 hw
      · have hw := hw.2 c_12
        refine gw_iload dX6_most_89 rfl ?_
        refine gw_goto (tgt := 96) dX6_most_91 (by decide) ?_
        refine gw_forget (ls' := [some (.ref (ad 0)), some (.int p1), some (.int p2), some (.int p3), none, none, some (.int x6), some (.int x7), some (.int r_11)]) (gw_sub.s (gw_sub.s (gw_sub.s (gw_sub.s (gw_sub.n (gw_sub.n (gw_sub.s (gw_sub.s (gw_sub.s gw_sub.z))))))))) ?_
        exact tk_X6_most_96   ih x6 x7 r_11 x7 h_10 hw
def wk_X6_most_42 (p1 : Int32) (p2 : Int32) (p3 : Int32)  (Q : Int32 → gw_H → Prop) : Int32 → gw_H → Prop :=
  fun x4 h => ((x4 = 0 → (wp_X6_begins h  (fun _ h_6 => (∃ n_16 : Nat, wl_X6_most_69 p1 p2 p3  Q n_16 (-9 : Int32) (-9 : Int32) (0 : Int32) h_6)))) ∧ (¬ x4 = 0 → (wp_X6_refuse h x4 (fun r_18 h_17 => Q r_18 h_17))))
set_option maxRecDepth 100000 in
set_option maxHeartbeats 4000000 in
theorem tk_X6_most_42 {l : Launch} {ad : Nat → Nat} {X : gw_X} {p1 : Int32} {p2 : Int32} {p3 : Int32}  {Q : Int32 → gw_H → Prop}   (x4 : Int32) (h : gw_H) (hw : wk_X6_most_42 p1 p2 p3  Q x4 h) : gw_G l vM ad cX6_most RX6 9 (some .int) 5 113 Q X h 42 [some (.ref (ad 0)), some (.int p1), some (.int p2), some (.int p3), some (.int x4), none, none, none, none] [] := by
  unfold wk_X6_most_42 at hw
  refine gw_iload dX6_most_42 rfl ?_
  refine gw_if_eq (tgt := 54) dX6_most_44 (by decide) (fun c_5 => ?_) (fun c_5 => ?_)
  · have hw := hw.1 c_5
    refine gw_aload_n dX6_most_54 rfl rfl ?_
    refine gw_callVv (As := []) (rest := []) rfl (gc_X6_begins  hw) mX6_begins lmX6_96 oX6 clX6 rfl rfl ⟨Nat.le_of_ble_eq_true rfl, Nat.le_of_ble_eq_true rfl⟩ (Nat.le_of_ble_eq_true rfl) dX6_most_55 (fun h_6 hw => ?_)
    refine gw_bipush dX6_most_58 bp_m9 ?_
    refine gw_istore (ls' := [some (.ref (ad 0)), some (.int p1), some (.int p2), some (.int p3), some (.int x4), some (.int (-9 : Int32)), none, none, none]) dX6_most_60 (Nat.le_of_ble_eq_true rfl) rfl ?_
    refine gw_bipush dX6_most_62 bp_m9 ?_
    refine gw_istore (ls' := [some (.ref (ad 0)), some (.int p1), some (.int p2), some (.int p3), some (.int x4), some (.int (-9 : Int32)), some (.int (-9 : Int32)), none, none]) dX6_most_64 (Nat.le_of_ble_eq_true rfl) rfl ?_
    refine gw_iconst dX6_most_66 ic_0 ?_
    refine gw_istore (ls' := [some (.ref (ad 0)), some (.int p1), some (.int p2), some (.int p3), some (.int x4), some (.int (-9 : Int32)), some (.int (-9 : Int32)), some (.int (0 : Int32)), none]) dX6_most_67 (Nat.le_of_ble_eq_true rfl) rfl ?_
    refine gw_forget (ls' := [some (.ref (ad 0)), some (.int p1), some (.int p2), some (.int p3), none, some (.int (-9 : Int32)), some (.int (-9 : Int32)), some (.int (0 : Int32)), none]) (gw_sub.s (gw_sub.s (gw_sub.s (gw_sub.s (gw_sub.n (gw_sub.s (gw_sub.s (gw_sub.s (gw_sub.n gw_sub.z))))))))) ?_
    obtain ⟨n_16, hw⟩ := hw
    exact tl_X6_most_69   n_16 (-9 : Int32) (-9 : Int32) (0 : Int32) h_6 hw
  · have hw := hw.2 c_5
    refine gw_aload_n dX6_most_47 rfl rfl ?_
    refine gw_iload dX6_most_48 rfl ?_
    refine gw_callVi (As := [.int x4]) (rest := []) rfl (gc_X6_refuse  hw) mX6_refuse lmX6_120 oX6 clX6 rfl rfl ⟨Nat.le_of_ble_eq_true rfl, Nat.le_of_ble_eq_true rfl⟩ (Nat.le_of_ble_eq_true rfl) dX6_most_50 (fun r_18 h_17 hw => ?_)
    exact gw_ireturn (ty := .int) hw rfl rfl dX6_most_53
def wk_X6_most_19 (p1 : Int32) (p2 : Int32) (p3 : Int32)  (Q : Int32 → gw_H → Prop) : Int32 → gw_H → Prop :=
  fun s0 h => (wp_X6_wrong h s0 p2 (fun r_3 h_2 => ((¬ r_3 = 0 → (wk_X6_most_42 p1 p2 p3  Q r_3 h_2)) ∧ (r_3 = 0 → (wp_X6_isIn h_2 p3 (2 : Int32) (fun r_20 h_19 => ((¬ r_20 = 0 → (wk_X6_most_42 p1 p2 p3  Q r_3 h_19)) ∧ (r_20 = 0 → (wk_X6_most_42 p1 p2 p3  Q (-2 : Int32) h_19)))))))))
set_option maxRecDepth 100000 in
set_option maxHeartbeats 4000000 in
theorem tk_X6_most_19 {l : Launch} {ad : Nat → Nat} {X : gw_X} {p1 : Int32} {p2 : Int32} {p3 : Int32}  {Q : Int32 → gw_H → Prop}   (s0 : Int32) (h : gw_H) (hw : wk_X6_most_19 p1 p2 p3  Q s0 h) : gw_G l vM ad cX6_most RX6 9 (some .int) 5 113 Q X h 19 [some (.ref (ad 0)), some (.int p1), some (.int p2), some (.int p3), none, none, none, none, none] [.int s0, .ref (ad 0)] := by
  unfold wk_X6_most_19 at hw
  refine gw_iload_n dX6_most_19 rfl rfl ?_
  refine gw_callVi (As := [.int s0, .int p2]) (rest := []) rfl (gc_X6_wrong  hw) mX6_wrong lmX6_163 oX6 clX6 rfl rfl ⟨Nat.le_of_ble_eq_true rfl, Nat.le_of_ble_eq_true rfl⟩ (Nat.le_of_ble_eq_true rfl) dX6_most_20 (fun r_3 h_2 hw => ?_)
  refine gw_istore (ls' := [some (.ref (ad 0)), some (.int p1), some (.int p2), some (.int p3), some (.int r_3), none, none, none, none]) dX6_most_23 (Nat.le_of_ble_eq_true rfl) rfl ?_
  refine gw_iload dX6_most_25 rfl ?_
  refine gw_if_ne (tgt := 42) dX6_most_27 (by decide) (fun c_4 => ?_) (fun c_4 => ?_)
  · have hw := hw.1 c_4
    exact tk_X6_most_42   r_3 h_2 hw
  · have hw := hw.2 c_4
    refine gw_iload_n dX6_most_30 rfl rfl ?_
    refine gw_iconst dX6_most_31 ic_2 ?_
    refine gw_callSi (As := [.int p3, .int (2 : Int32)]) (rest := []) rfl (gc_X6_isIn  hw) mX6_isIn lmX6_53 rfl rfl ⟨Nat.le_of_ble_eq_true rfl, Nat.le_of_ble_eq_true rfl⟩ (Nat.le_of_ble_eq_true rfl) dX6_most_32 (fun r_20 h_19 hw => ?_)
    refine gw_if_ne (tgt := 42) dX6_most_35 (by decide) (fun c_21 => ?_) (fun c_21 => ?_)
    · have hw := hw.1 c_21
      exact tk_X6_most_42   r_3 h_19 hw
    · have hw := hw.2 c_21
      refine gw_bipush dX6_most_38 bp_m2 ?_
      refine gw_istore (ls' := [some (.ref (ad 0)), some (.int p1), some (.int p2), some (.int p3), some (.int (-2 : Int32)), none, none, none, none]) dX6_most_40 (Nat.le_of_ble_eq_true rfl) rfl ?_
      exact tk_X6_most_42   (-2 : Int32) h_19 hw
def wk_X6_most_14 (p1 : Int32) (p2 : Int32) (p3 : Int32)  (Q : Int32 → gw_H → Prop) : gw_H → Prop :=
  fun h => (wk_X6_most_19 p1 p2 p3  Q (1 : Int32) h)
set_option maxRecDepth 100000 in
set_option maxHeartbeats 4000000 in
theorem tk_X6_most_14 {l : Launch} {ad : Nat → Nat} {X : gw_X} {p1 : Int32} {p2 : Int32} {p3 : Int32}  {Q : Int32 → gw_H → Prop}    (h : gw_H) (hw : wk_X6_most_14 p1 p2 p3  Q h) : gw_G l vM ad cX6_most RX6 9 (some .int) 5 113 Q X h 14 [some (.ref (ad 0)), some (.int p1), some (.int p2), some (.int p3), none, none, none, none, none] [.ref (ad 0)] := by
  unfold wk_X6_most_14 at hw
  refine gw_iconst dX6_most_14 ic_1 ?_
  refine gw_goto (tgt := 19) dX6_most_15 (by decide) ?_
  exact tk_X6_most_19   (1 : Int32) h hw
def wp_X6_most (h : gw_H) (p1 : Int32) (p2 : Int32) (p3 : Int32) (Q : Int32 → gw_H → Prop) : Prop :=
  ((p1 = (-1 : Int32) → (wk_X6_most_14 p1 p2 p3  Q h)) ∧ (¬ p1 = (-1 : Int32) → (wp_X6_isSong h p1 (fun r_23 h_22 => ((r_23 = 0 → (wk_X6_most_19 p1 p2 p3  Q (0 : Int32) h_22)) ∧ (¬ r_23 = 0 → (wk_X6_most_14 p1 p2 p3  Q h_22)))))))
set_option maxRecDepth 100000 in
set_option maxHeartbeats 4000000 in
theorem gc_X6_most {l : Launch} {ad : Nat → Nat} {h : gw_H} {p1 : Int32} {p2 : Int32} {p3 : Int32} {Q : Int32 → gw_H → Prop}  (hw : wp_X6_most h p1 p2 p3 Q) : gw_C l yX6_most cX6_most 9 (some .int) 5 113 vM ad [.ref (ad 0), .int p1, .int p2, .int p3] h Q := by
  refine gw_entry (own := RX6) [some (.ref (ad 0)), some (.int p1), some (.int p2), some (.int p3), none, none, none, none, none] pl_X6 rfl rfl (Nat.le_of_ble_eq_true rfl) rfl (fun X => ?_)
  unfold wp_X6_most at hw
  refine gw_aload_n dX6_most_0 rfl rfl ?_
  refine gw_iload_n dX6_most_1 rfl rfl ?_
  refine gw_iconst dX6_most_2 ic_m1 ?_
  refine gw_icmp_eq (tgt := 14) dX6_most_3 (by decide) (fun c_1 => ?_) (fun c_1 => ?_)
  · have hw := hw.1 c_1
    exact tk_X6_most_14   h hw
  · have hw := hw.2 c_1
    refine gw_aload_n dX6_most_6 rfl rfl ?_
    refine gw_iload_n dX6_most_7 rfl rfl ?_
    refine gw_callVi (As := [.int p1]) (rest := [.ref (ad 0)]) rfl (gc_X6_isSong  hw) mX6_isSong lmX6_147 oX6 clX6 rfl rfl ⟨Nat.le_of_ble_eq_true rfl, Nat.le_of_ble_eq_true rfl⟩ (Nat.le_of_ble_eq_true rfl) dX6_most_8 (fun r_23 h_22 hw => ?_)
    refine gw_if_eq (tgt := 18) dX6_most_11 (by decide) (fun c_24 => ?_) (fun c_24 => ?_)
    · have hw := hw.1 c_24
      refine gw_iconst dX6_most_18 ic_0 ?_
      exact tk_X6_most_19   (0 : Int32) h_22 hw
    · have hw := hw.2 c_24
      exact tk_X6_most_14   h_22 hw
def wk_X6_near_45 (p1 : Int32) (K18 : Int32 → Int32 → gw_H → Prop) (Q : Int32 → gw_H → Prop) : Int32 → Int32 → Int32 → gw_H → Prop :=
  fun x3 s0 s1 h => (K18 (s1 ||| s0) (x3 + (1 : Int32)) h)
set_option maxRecDepth 100000 in
set_option maxHeartbeats 4000000 in
theorem tk_X6_near_45 {l : Launch} {ad : Nat → Nat} {X : gw_X} {p1 : Int32} {K18 : Int32 → Int32 → gw_H → Prop} {Q : Int32 → gw_H → Prop}  (hK18 : ∀ (y2 : Int32) (y3 : Int32) (h : gw_H), K18 y2 y3 h → gw_G l vM ad cX6_near RX6 4 (some .int) 2 49 Q X h 18 [some (.ref (ad 0)), some (.int p1), some (.int y2), some (.int y3)] []) (x3 : Int32) (s0 : Int32) (s1 : Int32) (h : gw_H) (hw : wk_X6_near_45 p1 K18 Q x3 s0 s1 h) : gw_G l vM ad cX6_near RX6 4 (some .int) 2 49 Q X h 45 [some (.ref (ad 0)), some (.int p1), none, some (.int x3)] [.int s0, .int s1] := by
  unfold wk_X6_near_45 at hw
  refine gw_ior dX6_near_45 ?_
  refine gw_istore_n (ls' := [some (.ref (ad 0)), some (.int p1), some (.int (s1 ||| s0)), some (.int x3)]) dX6_near_46 rfl (Nat.le_of_ble_eq_true rfl) rfl ?_
  refine gw_iinc (ls' := [some (.ref (ad 0)), some (.int p1), some (.int (s1 ||| s0)), some (.int (x3 + (1 : Int32)))]) dX6_near_47 rfl (congrArg (fun z => x3 + z) ic_1) (Nat.le_of_ble_eq_true rfl) rfl ?_
  refine gw_goto (tgt := 18) dX6_near_50 (by decide) ?_
  exact hK18 (s1 ||| s0) (x3 + (1 : Int32)) h hw
def wl_X6_near_18 (p1 : Int32)  (Q : Int32 → gw_H → Prop) : Nat → Int32 → Int32 → gw_H → Prop
  | 0 => fun _ _ _ => False
  | n + 1 => fun x2 x3 h => (((h 2 3) ≤ x3 → Q x2 h) ∧ (¬ (h 2 3) ≤ x3 → (wp_X6_areNear h p1 x3 (fun r_6 h_5 => ((r_6 = 0 → (wk_X6_near_45 p1 (wl_X6_near_18 p1  Q n) Q x3 (0 : Int32) x2 h_5)) ∧ (¬ r_6 = 0 → (wk_X6_near_45 p1 (wl_X6_near_18 p1  Q n) Q x3 ((1 : Int32) <<< (x3 &&& 31)) x2 h_5)))))))
set_option maxRecDepth 100000 in
set_option maxHeartbeats 4000000 in
theorem tl_X6_near_18 {l : Launch} {ad : Nat → Nat} {X : gw_X} {p1 : Int32}  {Q : Int32 → gw_H → Prop}   : ∀ (n : Nat) (x2 : Int32) (x3 : Int32) (h : gw_H), wl_X6_near_18 p1  Q n x2 x3 h → gw_G l vM ad cX6_near RX6 4 (some .int) 2 49 Q X h 18 [some (.ref (ad 0)), some (.int p1), some (.int x2), some (.int x3)] [] := by
  intro n
  induction n with
  | zero => intro x2 x3 h hw; exact hw.elim
  | succ n ih =>
    intro x2 x3 h hw
    unfold wl_X6_near_18 at hw
    refine gw_iload_n dX6_near_18 rfl rfl ?_
    refine gw_aload_n dX6_near_19 rfl rfl ?_
    refine gw_getf (k := 1) (v := .ref (ad 2)) oX6 clX6 inUX6 (Nat.le_of_ble_eq_true rfl) rfl lfX6_13 rfl dX6_near_20 ?_
    refine gw_iconst dX6_near_23 ic_3 ?_
    refine gw_iald am_2 in_3_73 cl_3 dX6_near_24 ?_
    refine gw_icmp_ge (tgt := 53) dX6_near_25 (by decide) (fun c_4 => ?_) (fun c_4 => ?_)
    · have hw := hw.1 c_4
      refine gw_iload_n dX6_near_53 rfl rfl ?_
      exact gw_ireturn (ty := .int) hw rfl rfl dX6_near_54
    · have hw := hw.2 c_4
      refine gw_iload_n dX6_near_28 rfl rfl ?_
      refine gw_aload_n dX6_near_29 rfl rfl ?_
      refine gw_iload_n dX6_near_30 rfl rfl ?_
      refine gw_iload_n dX6_near_31 rfl rfl ?_
      refine gw_callVi (As := [.int p1, .int x3]) (rest := [.int x2]) rfl (gc_X6_areNear  hw) mX6_areNear lmX6_72 oX6 clX6 rfl rfl ⟨Nat.le_of_ble_eq_true rfl, Nat.le_of_ble_eq_true rfl⟩ (Nat.le_of_ble_eq_true rfl) dX6_near_32 (fun r_6 h_5 hw => ?_)
      refine gw_if_eq (tgt := 44) dX6_near_35 (by decide) (fun c_7 => ?_) (fun c_7 => ?_)
      · have hw := hw.1 c_7
        refine gw_iconst dX6_near_44 ic_0 ?_
        refine gw_forget (ls' := [some (.ref (ad 0)), some (.int p1), none, some (.int x3)]) (gw_sub.s (gw_sub.s (gw_sub.n (gw_sub.s gw_sub.z)))) ?_
        exact tk_X6_near_45   ih x3 (0 : Int32) x2 h_5 hw
      · have hw := hw.2 c_7
        refine gw_iconst dX6_near_38 ic_1 ?_
        refine gw_iload_n dX6_near_39 rfl rfl ?_
        refine gw_ishl dX6_near_40 ?_
        refine gw_goto (tgt := 45) dX6_near_41 (by decide) ?_
        refine gw_forget (ls' := [some (.ref (ad 0)), some (.int p1), none, some (.int x3)]) (gw_sub.s (gw_sub.s (gw_sub.n (gw_sub.s gw_sub.z)))) ?_
        exact tk_X6_near_45   ih x3 ((1 : Int32) <<< (x3 &&& 31)) x2 h_5 hw
def wp_X6_near (h : gw_H) (p1 : Int32) (Q : Int32 → gw_H → Prop) : Prop :=
  (wp_X6_isHead h p1 (fun r_2 h_1 => ((¬ r_2 = 0 → (∃ n_8 : Nat, wl_X6_near_18 p1  Q n_8 (0 : Int32) (0 : Int32) h_1)) ∧ (r_2 = 0 → (wp_X6_refuse h_1 (-1 : Int32) (fun r_10 h_9 => Q r_10 h_9))))))
set_option maxRecDepth 100000 in
set_option maxHeartbeats 4000000 in
theorem gc_X6_near {l : Launch} {ad : Nat → Nat} {h : gw_H} {p1 : Int32} {Q : Int32 → gw_H → Prop}  (hw : wp_X6_near h p1 Q) : gw_C l yX6_near cX6_near 4 (some .int) 2 49 vM ad [.ref (ad 0), .int p1] h Q := by
  refine gw_entry (own := RX6) [some (.ref (ad 0)), some (.int p1), none, none] pl_X6 rfl rfl (Nat.le_of_ble_eq_true rfl) rfl (fun X => ?_)
  unfold wp_X6_near at hw
  refine gw_aload_n dX6_near_0 rfl rfl ?_
  refine gw_iload_n dX6_near_1 rfl rfl ?_
  refine gw_callVi (As := [.int p1]) (rest := []) rfl (gc_X6_isHead  hw) mX6_isHead lmX6_144 oX6 clX6 rfl rfl ⟨Nat.le_of_ble_eq_true rfl, Nat.le_of_ble_eq_true rfl⟩ (Nat.le_of_ble_eq_true rfl) dX6_near_2 (fun r_2 h_1 hw => ?_)
  refine gw_if_ne (tgt := 14) dX6_near_5 (by decide) (fun c_3 => ?_) (fun c_3 => ?_)
  · have hw := hw.1 c_3
    refine gw_iconst dX6_near_14 ic_0 ?_
    refine gw_istore_n (ls' := [some (.ref (ad 0)), some (.int p1), some (.int (0 : Int32)), none]) dX6_near_15 rfl (Nat.le_of_ble_eq_true rfl) rfl ?_
    refine gw_iconst dX6_near_16 ic_0 ?_
    refine gw_istore_n (ls' := [some (.ref (ad 0)), some (.int p1), some (.int (0 : Int32)), some (.int (0 : Int32))]) dX6_near_17 rfl (Nat.le_of_ble_eq_true rfl) rfl ?_
    obtain ⟨n_8, hw⟩ := hw
    exact tl_X6_near_18   n_8 (0 : Int32) (0 : Int32) h_1 hw
  · have hw := hw.2 c_3
    refine gw_aload_n dX6_near_8 rfl rfl ?_
    refine gw_iconst dX6_near_9 ic_m1 ?_
    refine gw_callVi (As := [.int (-1 : Int32)]) (rest := []) rfl (gc_X6_refuse  hw) mX6_refuse lmX6_120 oX6 clX6 rfl rfl ⟨Nat.le_of_ble_eq_true rfl, Nat.le_of_ble_eq_true rfl⟩ (Nat.le_of_ble_eq_true rfl) dX6_near_10 (fun r_10 h_9 hw => ?_)
    exact gw_ireturn (ty := .int) hw rfl rfl dX6_near_13
def wp_X6_sign (h : gw_H)  (Q : Int32 → gw_H → Prop) : Prop :=
  (((h 0 13) ≤ (h 0 14) → Q (-1 : Int32) h) ∧ (¬ (h 0 13) ≤ (h 0 14) → (vp_in (h 0 14) 96 ∧ Q (h 11 (h 0 14).toNatClampNeg) h)))
set_option maxRecDepth 100000 in
set_option maxHeartbeats 4000000 in
theorem gc_X6_sign {l : Launch} {ad : Nat → Nat} {h : gw_H}  {Q : Int32 → gw_H → Prop}  (hw : wp_X6_sign h  Q) : gw_C l yX6_sign cX6_sign 1 (some .int) 0 0 vM ad [.ref (ad 0)] h Q := by
  refine gw_entry (own := RX6) [some (.ref (ad 0))] pl_X6 rfl rfl (Nat.le_of_ble_eq_true rfl) rfl (fun X => ?_)
  unfold wp_X6_sign at hw
  refine gw_aload_n dX6_sign_0 rfl rfl ?_
  refine gw_getf (k := 14) (v := .int (h 0 14)) oX6 clX6 inUX6 (Nat.le_of_ble_eq_true rfl) rfl lfX6_123 rfl dX6_sign_1 ?_
  refine gw_aload_n dX6_sign_4 rfl rfl ?_
  refine gw_getf (k := 13) (v := .int (h 0 13)) oX6 clX6 inUX6 (Nat.le_of_ble_eq_true rfl) rfl lfX6_116 rfl dX6_sign_5 ?_
  refine gw_icmp_ge (tgt := 23) dX6_sign_8 (by decide) (fun c_1 => ?_) (fun c_1 => ?_)
  · have hw := hw.1 c_1
    refine gw_iconst dX6_sign_23 ic_m1 ?_
    exact gw_ireturn (ty := .int) hw rfl rfl dX6_sign_24
  · have hw := hw.2 c_1
    refine gw_aload_n dX6_sign_11 rfl rfl ?_
    refine gw_getf (k := 11) (v := .ref (ad 11)) oX6 clX6 inUX6 (Nat.le_of_ble_eq_true rfl) rfl lfX6_40 rfl dX6_sign_12 ?_
    refine gw_aload_n dX6_sign_15 rfl rfl ?_
    refine gw_getf (k := 14) (v := .int (h 0 14)) oX6 clX6 inUX6 (Nat.le_of_ble_eq_true rfl) rfl lfX6_123 rfl dX6_sign_16 ?_
    have q_2 := hw.1
    have hw := hw.2
    refine gw_iald am_11 q_2 rfl dX6_sign_19 ?_
    refine gw_goto (tgt := 24) dX6_sign_20 (by decide) ?_
    exact gw_ireturn (ty := .int) hw rfl rfl dX6_sign_24
def wk_X6_readsNumber_68 (p1 : Int32) (p2 : Int32)  (Q : Int32 → gw_H → Prop) : Int32 → gw_H → Prop :=
  fun x3 h => ((x3 ≤ 0 → Q (0 : Int32) h) ∧ (¬ x3 ≤ 0 → Q (1 : Int32) h))
set_option maxRecDepth 100000 in
set_option maxHeartbeats 4000000 in
theorem tk_X6_readsNumber_68 {l : Launch} {ad : Nat → Nat} {X : gw_X} {p1 : Int32} {p2 : Int32}  {Q : Int32 → gw_H → Prop}   (x3 : Int32) (h : gw_H) (hw : wk_X6_readsNumber_68 p1 p2  Q x3 h) : gw_G l vM ad cX6_readsNumber RX6 4 (some .boolean) 1 21 Q X h 68 [some (.ref (ad 0)), some (.int p1), some (.int p2), some (.int x3)] [] := by
  unfold wk_X6_readsNumber_68 at hw
  refine gw_iload_n dX6_readsNumber_68 rfl rfl ?_
  refine gw_if_le (tgt := 76) dX6_readsNumber_69 (by decide) (fun c_2 => ?_) (fun c_2 => ?_)
  · have hw := hw.1 c_2
    refine gw_iconst dX6_readsNumber_76 ic_0 ?_
    exact gw_ireturn (ty := .boolean) hw rfl rfl dX6_readsNumber_77
  · have hw := hw.2 c_2
    refine gw_iconst dX6_readsNumber_72 ic_1 ?_
    refine gw_goto (tgt := 77) dX6_readsNumber_73 (by decide) ?_
    exact gw_ireturn (ty := .boolean) hw rfl rfl dX6_readsNumber_77
def wl_X6_readsNumber_9 (p1 : Int32) (p2 : Int32)  (Q : Int32 → gw_H → Prop) : Nat → Int32 → gw_H → Prop
  | 0 => fun _ _ => False
  | n + 1 => fun x3 h => ((p2 ≤ x3 → (wk_X6_readsNumber_68 p1 p2  Q x3 h)) ∧ (¬ p2 ≤ x3 → (wp_X6_sign h  (fun r_4 h_3 => (wp_X6_isIn h_3 (r_4 - (48 : Int32)) (10 : Int32) (fun r_6 h_5 => ((r_6 = 0 → (wk_X6_readsNumber_68 p1 p2  Q x3 h_5)) ∧ (¬ r_6 = 0 → (vp_in p1 3 ∧ (wp_X6_sign h_5  (fun r_9 h_8 => (vp_in p1 3 ∧ ((wl_X6_readsNumber_9 p1 p2  Q n) (x3 + (1 : Int32)) (gw_up (gw_up h_8 12 p1.toNatClampNeg ((((10 : Int32) * (h_5 12 p1.toNatClampNeg)) + r_9) - (48 : Int32))) 0 14 (((gw_up h_8 12 p1.toNatClampNeg ((((10 : Int32) * (h_5 12 p1.toNatClampNeg)) + r_9) - (48 : Int32))) 0 14) + (1 : Int32))))))))))))))))
set_option maxRecDepth 100000 in
set_option maxHeartbeats 4000000 in
theorem tl_X6_readsNumber_9 {l : Launch} {ad : Nat → Nat} {X : gw_X} {p1 : Int32} {p2 : Int32}  {Q : Int32 → gw_H → Prop}   : ∀ (n : Nat) (x3 : Int32) (h : gw_H), wl_X6_readsNumber_9 p1 p2  Q n x3 h → gw_G l vM ad cX6_readsNumber RX6 4 (some .boolean) 1 21 Q X h 9 [some (.ref (ad 0)), some (.int p1), some (.int p2), some (.int x3)] [] := by
  intro n
  induction n with
  | zero => intro x3 h hw; exact hw.elim
  | succ n ih =>
    intro x3 h hw
    unfold wl_X6_readsNumber_9 at hw
    refine gw_iload_n dX6_readsNumber_9 rfl rfl ?_
    refine gw_iload_n dX6_readsNumber_10 rfl rfl ?_
    refine gw_icmp_ge (tgt := 68) dX6_readsNumber_11 (by decide) (fun c_1 => ?_) (fun c_1 => ?_)
    · have hw := hw.1 c_1
      exact tk_X6_readsNumber_68   x3 h hw
    · have hw := hw.2 c_1
      refine gw_aload_n dX6_readsNumber_14 rfl rfl ?_
      refine gw_callVi (As := []) (rest := []) rfl (gc_X6_sign  hw) mX6_sign lmX6_126 oX6 clX6 rfl rfl ⟨Nat.le_of_ble_eq_true rfl, Nat.le_of_ble_eq_true rfl⟩ (Nat.le_of_ble_eq_true rfl) dX6_readsNumber_15 (fun r_4 h_3 hw => ?_)
      refine gw_bipush dX6_readsNumber_18 bp_48 ?_
      refine gw_isub dX6_readsNumber_20 ?_
      refine gw_bipush dX6_readsNumber_21 bp_10 ?_
      refine gw_callSi (As := [.int (r_4 - (48 : Int32)), .int (10 : Int32)]) (rest := []) rfl (gc_X6_isIn  hw) mX6_isIn lmX6_53 rfl rfl ⟨Nat.le_of_ble_eq_true rfl, Nat.le_of_ble_eq_true rfl⟩ (Nat.le_of_ble_eq_true rfl) dX6_readsNumber_23 (fun r_6 h_5 hw => ?_)
      refine gw_if_eq (tgt := 68) dX6_readsNumber_26 (by decide) (fun c_7 => ?_) (fun c_7 => ?_)
      · have hw := hw.1 c_7
        exact tk_X6_readsNumber_68   x3 h_5 hw
      · have hw := hw.2 c_7
        refine gw_aload_n dX6_readsNumber_29 rfl rfl ?_
        refine gw_getf (k := 12) (v := .ref (ad 12)) oX6 clX6 inUX6 (Nat.le_of_ble_eq_true rfl) rfl lfX6_43 rfl dX6_readsNumber_30 ?_
        refine gw_iload_n dX6_readsNumber_33 rfl rfl ?_
        refine gw_bipush dX6_readsNumber_34 bp_10 ?_
        refine gw_aload_n dX6_readsNumber_36 rfl rfl ?_
        refine gw_getf (k := 12) (v := .ref (ad 12)) oX6 clX6 inUX6 (Nat.le_of_ble_eq_true rfl) rfl lfX6_43 rfl dX6_readsNumber_37 ?_
        refine gw_iload_n dX6_readsNumber_40 rfl rfl ?_
        have q_11 := hw.1
        have hw := hw.2
        refine gw_iald am_12 q_11 rfl dX6_readsNumber_41 ?_
        refine gw_imul dX6_readsNumber_42 ?_
        refine gw_aload_n dX6_readsNumber_43 rfl rfl ?_
        refine gw_callVi (As := []) (rest := [.int ((10 : Int32) * (h_5 12 p1.toNatClampNeg)), .int p1, .ref (ad 12)]) rfl (gc_X6_sign  hw) mX6_sign lmX6_126 oX6 clX6 rfl rfl ⟨Nat.le_of_ble_eq_true rfl, Nat.le_of_ble_eq_true rfl⟩ (Nat.le_of_ble_eq_true rfl) dX6_readsNumber_44 (fun r_9 h_8 hw => ?_)
        refine gw_iadd dX6_readsNumber_47 ?_
        refine gw_bipush dX6_readsNumber_48 bp_48 ?_
        refine gw_isub dX6_readsNumber_50 ?_
        have q_10 := hw.1
        have hw := hw.2
        refine gw_iast am_12 q_10 rfl dX6_readsNumber_51 ?_
        refine gw_aload_n dX6_readsNumber_52 rfl rfl ?_
        refine gw_dup dX6_readsNumber_53 rfl ?_
        refine gw_getf (k := 14) (v := .int ((gw_up h_8 12 p1.toNatClampNeg ((((10 : Int32) * (h_5 12 p1.toNatClampNeg)) + r_9) - (48 : Int32))) 0 14)) oX6 clX6 inUX6 (Nat.le_of_ble_eq_true rfl) rfl lfX6_123 rfl dX6_readsNumber_54 ?_
        refine gw_iconst dX6_readsNumber_57 ic_1 ?_
        refine gw_iadd dX6_readsNumber_58 ?_
        refine gw_putf (k := 14) (ty := .int) oX6 clX6 inUX6 tyX6_ok nmX6 (Nat.le_of_ble_eq_true rfl) rfl lfX6_123 (by decide +kernel) rfl rfl st_X6_14 dX6_readsNumber_59 ?_
        refine gw_iinc (ls' := [some (.ref (ad 0)), some (.int p1), some (.int p2), some (.int (x3 + (1 : Int32)))]) dX6_readsNumber_62 rfl (congrArg (fun z => x3 + z) ic_1) (Nat.le_of_ble_eq_true rfl) rfl ?_
        refine gw_goto (tgt := 9) dX6_readsNumber_65 (by decide) ?_
        exact ih (x3 + (1 : Int32)) (gw_up (gw_up h_8 12 p1.toNatClampNeg ((((10 : Int32) * (h_5 12 p1.toNatClampNeg)) + r_9) - (48 : Int32))) 0 14 (((gw_up h_8 12 p1.toNatClampNeg ((((10 : Int32) * (h_5 12 p1.toNatClampNeg)) + r_9) - (48 : Int32))) 0 14) + (1 : Int32))) hw
def wp_X6_readsNumber (h : gw_H) (p1 : Int32) (p2 : Int32) (Q : Int32 → gw_H → Prop) : Prop :=
  (vp_in p1 3 ∧ (∃ n_12 : Nat, wl_X6_readsNumber_9 p1 p2  Q n_12 (0 : Int32) (gw_up h 12 p1.toNatClampNeg (0 : Int32))))
set_option maxRecDepth 100000 in
set_option maxHeartbeats 4000000 in
theorem gc_X6_readsNumber {l : Launch} {ad : Nat → Nat} {h : gw_H} {p1 : Int32} {p2 : Int32} {Q : Int32 → gw_H → Prop}  (hw : wp_X6_readsNumber h p1 p2 Q) : gw_C l yX6_readsNumber cX6_readsNumber 4 (some .boolean) 1 21 vM ad [.ref (ad 0), .int p1, .int p2] h Q := by
  refine gw_entry (own := RX6) [some (.ref (ad 0)), some (.int p1), some (.int p2), none] pl_X6 rfl rfl (Nat.le_of_ble_eq_true rfl) rfl (fun X => ?_)
  unfold wp_X6_readsNumber at hw
  refine gw_aload_n dX6_readsNumber_0 rfl rfl ?_
  refine gw_getf (k := 12) (v := .ref (ad 12)) oX6 clX6 inUX6 (Nat.le_of_ble_eq_true rfl) rfl lfX6_43 rfl dX6_readsNumber_1 ?_
  refine gw_iload_n dX6_readsNumber_4 rfl rfl ?_
  refine gw_iconst dX6_readsNumber_5 ic_0 ?_
  have q_13 := hw.1
  have hw := hw.2
  refine gw_iast am_12 q_13 rfl dX6_readsNumber_6 ?_
  refine gw_iconst dX6_readsNumber_7 ic_0 ?_
  refine gw_istore_n (ls' := [some (.ref (ad 0)), some (.int p1), some (.int p2), some (.int (0 : Int32))]) dX6_readsNumber_8 rfl (Nat.le_of_ble_eq_true rfl) rfl ?_
  obtain ⟨n_12, hw⟩ := hw
  exact tl_X6_readsNumber_9   n_12 (0 : Int32) (gw_up h 12 p1.toNatClampNeg (0 : Int32)) hw
def wp_X6_readsKind (h : gw_H) (p1 : Int32) (Q : Int32 → gw_H → Prop) : Prop :=
  ((0 ≤ p1 → (wp_X6_readsNumber (gw_up (gw_up h 12 0 p1) 0 14 (((gw_up h 12 0 p1) 0 14) + (1 : Int32))) (1 : Int32) (1 : Int32) (fun r_3 h_2 => ((r_3 = 0 → Q (0 : Int32) h_2) ∧ (¬ r_3 = 0 → (wp_X6_readsNumber h_2 (2 : Int32) (1 : Int32) (fun r_6 h_5 => ((r_6 = 0 → Q (0 : Int32) h_5) ∧ (¬ r_6 = 0 → Q (1 : Int32) h_5))))))))) ∧ (¬ 0 ≤ p1 → Q (0 : Int32) (gw_up h 12 0 p1)))
set_option maxRecDepth 100000 in
set_option maxHeartbeats 4000000 in
theorem gc_X6_readsKind {l : Launch} {ad : Nat → Nat} {h : gw_H} {p1 : Int32} {Q : Int32 → gw_H → Prop}  (hw : wp_X6_readsKind h p1 Q) : gw_C l yX6_readsKind cX6_readsKind 2 (some .boolean) 2 44 vM ad [.ref (ad 0), .int p1] h Q := by
  refine gw_entry (own := RX6) [some (.ref (ad 0)), some (.int p1)] pl_X6 rfl rfl (Nat.le_of_ble_eq_true rfl) rfl (fun X => ?_)
  unfold wp_X6_readsKind at hw
  refine gw_aload_n dX6_readsKind_0 rfl rfl ?_
  refine gw_getf (k := 12) (v := .ref (ad 12)) oX6 clX6 inUX6 (Nat.le_of_ble_eq_true rfl) rfl lfX6_43 rfl dX6_readsKind_1 ?_
  refine gw_iconst dX6_readsKind_4 ic_0 ?_
  refine gw_iload_n dX6_readsKind_5 rfl rfl ?_
  refine gw_iast am_12 in_0_3 cl_0 dX6_readsKind_6 ?_
  refine gw_iload_n dX6_readsKind_7 rfl rfl ?_
  refine gw_if_ge (tgt := 13) dX6_readsKind_8 (by decide) (fun c_1 => ?_) (fun c_1 => ?_)
  · have hw := hw.1 c_1
    refine gw_aload_n dX6_readsKind_13 rfl rfl ?_
    refine gw_dup dX6_readsKind_14 rfl ?_
    refine gw_getf (k := 14) (v := .int ((gw_up h 12 0 p1) 0 14)) oX6 clX6 inUX6 (Nat.le_of_ble_eq_true rfl) rfl lfX6_123 rfl dX6_readsKind_15 ?_
    refine gw_iconst dX6_readsKind_18 ic_1 ?_
    refine gw_iadd dX6_readsKind_19 ?_
    refine gw_putf (k := 14) (ty := .int) oX6 clX6 inUX6 tyX6_ok nmX6 (Nat.le_of_ble_eq_true rfl) rfl lfX6_123 (by decide +kernel) rfl rfl st_X6_14 dX6_readsKind_20 ?_
    refine gw_aload_n dX6_readsKind_23 rfl rfl ?_
    refine gw_iconst dX6_readsKind_24 ic_1 ?_
    refine gw_iconst dX6_readsKind_25 ic_1 ?_
    refine gw_callVi (As := [.int (1 : Int32), .int (1 : Int32)]) (rest := []) rfl (gc_X6_readsNumber  hw) mX6_readsNumber lmX6_129 oX6 clX6 rfl rfl ⟨Nat.le_of_ble_eq_true rfl, Nat.le_of_ble_eq_true rfl⟩ (Nat.le_of_ble_eq_true rfl) dX6_readsKind_26 (fun r_3 h_2 hw => ?_)
    refine gw_if_eq (tgt := 45) dX6_readsKind_29 (by decide) (fun c_4 => ?_) (fun c_4 => ?_)
    · have hw := hw.1 c_4
      refine gw_iconst dX6_readsKind_45 ic_0 ?_
      exact gw_ireturn (ty := .boolean) hw rfl rfl dX6_readsKind_46
    · have hw := hw.2 c_4
      refine gw_aload_n dX6_readsKind_32 rfl rfl ?_
      refine gw_iconst dX6_readsKind_33 ic_2 ?_
      refine gw_iconst dX6_readsKind_34 ic_1 ?_
      refine gw_callVi (As := [.int (2 : Int32), .int (1 : Int32)]) (rest := []) rfl (gc_X6_readsNumber  hw) mX6_readsNumber lmX6_129 oX6 clX6 rfl rfl ⟨Nat.le_of_ble_eq_true rfl, Nat.le_of_ble_eq_true rfl⟩ (Nat.le_of_ble_eq_true rfl) dX6_readsKind_35 (fun r_6 h_5 hw => ?_)
      refine gw_if_eq (tgt := 45) dX6_readsKind_38 (by decide) (fun c_7 => ?_) (fun c_7 => ?_)
      · have hw := hw.1 c_7
        refine gw_iconst dX6_readsKind_45 ic_0 ?_
        exact gw_ireturn (ty := .boolean) hw rfl rfl dX6_readsKind_46
      · have hw := hw.2 c_7
        refine gw_iconst dX6_readsKind_41 ic_1 ?_
        refine gw_goto (tgt := 46) dX6_readsKind_42 (by decide) ?_
        exact gw_ireturn (ty := .boolean) hw rfl rfl dX6_readsKind_46
  · have hw := hw.2 c_1
    refine gw_iconst dX6_readsKind_11 ic_0 ?_
    exact gw_ireturn (ty := .boolean) hw rfl rfl dX6_readsKind_12
def wp_X6_songOf (h : gw_H) (p1 : Int32) (Q : Int32 → gw_H → Prop) : Prop :=
  ((¬ p1 = (115 : Int32) → ((¬ p1 = (108 : Int32) → ((¬ p1 = (113 : Int32) → ((¬ p1 = (99 : Int32) → ((¬ p1 = (106 : Int32) → ((¬ p1 = (104 : Int32) → Q (-9 : Int32) h) ∧ (p1 = (104 : Int32) → Q (5 : Int32) h))) ∧ (p1 = (106 : Int32) → Q (4 : Int32) h))) ∧ (p1 = (99 : Int32) → Q (3 : Int32) h))) ∧ (p1 = (113 : Int32) → Q (2 : Int32) h))) ∧ (p1 = (108 : Int32) → Q (1 : Int32) h))) ∧ (p1 = (115 : Int32) → Q (0 : Int32) h))
set_option maxRecDepth 100000 in
set_option maxHeartbeats 4000000 in
theorem gc_X6_songOf {l : Launch} {ad : Nat → Nat} {h : gw_H} {p1 : Int32} {Q : Int32 → gw_H → Prop}  (hw : wp_X6_songOf h p1 Q) : gw_C l yX6_songOf cX6_songOf 1 (some .int) 0 0 vM ad [.int p1] h Q := by
  refine gw_entry (own := RX6) [some (.int p1)] pl_X6 rfl rfl (Nat.le_of_ble_eq_true rfl) rfl (fun X => ?_)
  unfold wp_X6_songOf at hw
  refine gw_iload_n dX6_songOf_0 rfl rfl ?_
  refine gw_bipush dX6_songOf_1 bp_115 ?_
  refine gw_icmp_ne (tgt := 10) dX6_songOf_3 (by decide) (fun c_1 => ?_) (fun c_1 => ?_)
  · have hw := hw.1 c_1
    refine gw_iload_n dX6_songOf_10 rfl rfl ?_
    refine gw_bipush dX6_songOf_11 bp_108 ?_
    refine gw_icmp_ne (tgt := 20) dX6_songOf_13 (by decide) (fun c_2 => ?_) (fun c_2 => ?_)
    · have hw := hw.1 c_2
      refine gw_iload_n dX6_songOf_20 rfl rfl ?_
      refine gw_bipush dX6_songOf_21 bp_113 ?_
      refine gw_icmp_ne (tgt := 30) dX6_songOf_23 (by decide) (fun c_3 => ?_) (fun c_3 => ?_)
      · have hw := hw.1 c_3
        refine gw_iload_n dX6_songOf_30 rfl rfl ?_
        refine gw_bipush dX6_songOf_31 bp_99 ?_
        refine gw_icmp_ne (tgt := 40) dX6_songOf_33 (by decide) (fun c_4 => ?_) (fun c_4 => ?_)
        · have hw := hw.1 c_4
          refine gw_iload_n dX6_songOf_40 rfl rfl ?_
          refine gw_bipush dX6_songOf_41 bp_106 ?_
          refine gw_icmp_ne (tgt := 50) dX6_songOf_43 (by decide) (fun c_5 => ?_) (fun c_5 => ?_)
          · have hw := hw.1 c_5
            refine gw_iload_n dX6_songOf_50 rfl rfl ?_
            refine gw_bipush dX6_songOf_51 bp_104 ?_
            refine gw_icmp_ne (tgt := 60) dX6_songOf_53 (by decide) (fun c_6 => ?_) (fun c_6 => ?_)
            · have hw := hw.1 c_6
              refine gw_bipush dX6_songOf_60 bp_m9 ?_
              exact gw_ireturn (ty := .int) hw rfl rfl dX6_songOf_62
            · have hw := hw.2 c_6
              refine gw_iconst dX6_songOf_56 ic_5 ?_
              refine gw_goto (tgt := 62) dX6_songOf_57 (by decide) ?_
              exact gw_ireturn (ty := .int) hw rfl rfl dX6_songOf_62
          · have hw := hw.2 c_5
            refine gw_iconst dX6_songOf_46 ic_4 ?_
            refine gw_goto (tgt := 62) dX6_songOf_47 (by decide) ?_
            exact gw_ireturn (ty := .int) hw rfl rfl dX6_songOf_62
        · have hw := hw.2 c_4
          refine gw_iconst dX6_songOf_36 ic_3 ?_
          refine gw_goto (tgt := 62) dX6_songOf_37 (by decide) ?_
          exact gw_ireturn (ty := .int) hw rfl rfl dX6_songOf_62
      · have hw := hw.2 c_3
        refine gw_iconst dX6_songOf_26 ic_2 ?_
        refine gw_goto (tgt := 62) dX6_songOf_27 (by decide) ?_
        exact gw_ireturn (ty := .int) hw rfl rfl dX6_songOf_62
    · have hw := hw.2 c_2
      refine gw_iconst dX6_songOf_16 ic_1 ?_
      refine gw_goto (tgt := 62) dX6_songOf_17 (by decide) ?_
      exact gw_ireturn (ty := .int) hw rfl rfl dX6_songOf_62
  · have hw := hw.2 c_1
    refine gw_iconst dX6_songOf_6 ic_0 ?_
    refine gw_goto (tgt := 62) dX6_songOf_7 (by decide) ?_
    exact gw_ireturn (ty := .int) hw rfl rfl dX6_songOf_62
def wp_X6_takes (h : gw_H) (p1 : Int32) (Q : Int32 → gw_H → Prop) : Prop :=
  (wp_X6_sign h  (fun r_2 h_1 => ((r_2 = p1 → Q (1 : Int32) (gw_up h_1 0 14 ((h_1 0 14) + (1 : Int32)))) ∧ (¬ r_2 = p1 → Q (0 : Int32) h_1))))
set_option maxRecDepth 100000 in
set_option maxHeartbeats 4000000 in
theorem gc_X6_takes {l : Launch} {ad : Nat → Nat} {h : gw_H} {p1 : Int32} {Q : Int32 → gw_H → Prop}  (hw : wp_X6_takes h p1 Q) : gw_C l yX6_takes cX6_takes 2 (some .boolean) 1 20 vM ad [.ref (ad 0), .int p1] h Q := by
  refine gw_entry (own := RX6) [some (.ref (ad 0)), some (.int p1)] pl_X6 rfl rfl (Nat.le_of_ble_eq_true rfl) rfl (fun X => ?_)
  unfold wp_X6_takes at hw
  refine gw_aload_n dX6_takes_0 rfl rfl ?_
  refine gw_callVi (As := []) (rest := []) rfl (gc_X6_sign  hw) mX6_sign lmX6_126 oX6 clX6 rfl rfl ⟨Nat.le_of_ble_eq_true rfl, Nat.le_of_ble_eq_true rfl⟩ (Nat.le_of_ble_eq_true rfl) dX6_takes_1 (fun r_2 h_1 hw => ?_)
  refine gw_iload_n dX6_takes_4 rfl rfl ?_
  refine gw_icmp_eq (tgt := 10) dX6_takes_5 (by decide) (fun c_3 => ?_) (fun c_3 => ?_)
  · have hw := hw.1 c_3
    refine gw_aload_n dX6_takes_10 rfl rfl ?_
    refine gw_dup dX6_takes_11 rfl ?_
    refine gw_getf (k := 14) (v := .int (h_1 0 14)) oX6 clX6 inUX6 (Nat.le_of_ble_eq_true rfl) rfl lfX6_123 rfl dX6_takes_12 ?_
    refine gw_iconst dX6_takes_15 ic_1 ?_
    refine gw_iadd dX6_takes_16 ?_
    refine gw_putf (k := 14) (ty := .int) oX6 clX6 inUX6 tyX6_ok nmX6 (Nat.le_of_ble_eq_true rfl) rfl lfX6_123 (by decide +kernel) rfl rfl st_X6_14 dX6_takes_17 ?_
    refine gw_iconst dX6_takes_20 ic_1 ?_
    exact gw_ireturn (ty := .boolean) hw rfl rfl dX6_takes_21
  · have hw := hw.2 c_3
    refine gw_iconst dX6_takes_8 ic_0 ?_
    exact gw_ireturn (ty := .boolean) hw rfl rfl dX6_takes_9
def wk_X6_readsStatement_147   (Q : Int32 → gw_H → Prop) : Int32 → gw_H → Prop :=
  fun x2 h => ((x2 = 0 → Q (0 : Int32) h) ∧ (¬ x2 = 0 → (wp_X6_takes h (59 : Int32) (fun r_9 h_8 => ((r_9 = 0 → Q (0 : Int32) h_8) ∧ (¬ r_9 = 0 → Q (1 : Int32) h_8))))))
set_option maxRecDepth 100000 in
set_option maxHeartbeats 4000000 in
theorem tk_X6_readsStatement_147 {l : Launch} {ad : Nat → Nat} {X : gw_X}   {Q : Int32 → gw_H → Prop}   (x2 : Int32) (h : gw_H) (hw : wk_X6_readsStatement_147   Q x2 h) : gw_G l vM ad cX6_readsStatement RX6 3 (some .boolean) 3 65 Q X h 147 [some (.ref (ad 0)), none, some (.int x2)] [] := by
  unfold wk_X6_readsStatement_147 at hw
  refine gw_iload_n dX6_readsStatement_147 rfl rfl ?_
  refine gw_if_eq (tgt := 164) dX6_readsStatement_148 (by decide) (fun c_7 => ?_) (fun c_7 => ?_)
  · have hw := hw.1 c_7
    refine gw_iconst dX6_readsStatement_164 ic_0 ?_
    exact gw_ireturn (ty := .boolean) hw rfl rfl dX6_readsStatement_165
  · have hw := hw.2 c_7
    refine gw_aload_n dX6_readsStatement_151 rfl rfl ?_
    refine gw_bipush dX6_readsStatement_152 bp_59 ?_
    refine gw_callVi (As := [.int (59 : Int32)]) (rest := []) rfl (gc_X6_takes  hw) mX6_takes lmX6_141 oX6 clX6 rfl rfl ⟨Nat.le_of_ble_eq_true rfl, Nat.le_of_ble_eq_true rfl⟩ (Nat.le_of_ble_eq_true rfl) dX6_readsStatement_154 (fun r_9 h_8 hw => ?_)
    refine gw_if_eq (tgt := 164) dX6_readsStatement_157 (by decide) (fun c_10 => ?_) (fun c_10 => ?_)
    · have hw := hw.1 c_10
      refine gw_iconst dX6_readsStatement_164 ic_0 ?_
      exact gw_ireturn (ty := .boolean) hw rfl rfl dX6_readsStatement_165
    · have hw := hw.2 c_10
      refine gw_iconst dX6_readsStatement_160 ic_1 ?_
      refine gw_goto (tgt := 165) dX6_readsStatement_161 (by decide) ?_
      exact gw_ireturn (ty := .boolean) hw rfl rfl dX6_readsStatement_165
def wk_X6_readsStatement_91   (Q : Int32 → gw_H → Prop) : Int32 → gw_H → Prop :=
  fun s0 h => (wk_X6_readsStatement_147   Q s0 h)
set_option maxRecDepth 100000 in
set_option maxHeartbeats 4000000 in
theorem tk_X6_readsStatement_91 {l : Launch} {ad : Nat → Nat} {X : gw_X}   {Q : Int32 → gw_H → Prop}   (s0 : Int32) (h : gw_H) (hw : wk_X6_readsStatement_91   Q s0 h) : gw_G l vM ad cX6_readsStatement RX6 3 (some .boolean) 3 65 Q X h 91 [some (.ref (ad 0)), none, none] [.int s0] := by
  unfold wk_X6_readsStatement_91 at hw
  refine gw_istore_n (ls' := [some (.ref (ad 0)), none, some (.int s0)]) dX6_readsStatement_91 rfl (Nat.le_of_ble_eq_true rfl) rfl ?_
  refine gw_goto (tgt := 147) dX6_readsStatement_92 (by decide) ?_
  exact tk_X6_readsStatement_147   s0 h hw
def wk_X6_readsStatement_90   (Q : Int32 → gw_H → Prop) : gw_H → Prop :=
  fun h => (wk_X6_readsStatement_91   Q (0 : Int32) h)
set_option maxRecDepth 100000 in
set_option maxHeartbeats 4000000 in
theorem tk_X6_readsStatement_90 {l : Launch} {ad : Nat → Nat} {X : gw_X}   {Q : Int32 → gw_H → Prop}    (h : gw_H) (hw : wk_X6_readsStatement_90   Q h) : gw_G l vM ad cX6_readsStatement RX6 3 (some .boolean) 3 65 Q X h 90 [some (.ref (ad 0)), none, none] [] := by
  unfold wk_X6_readsStatement_90 at hw
  refine gw_iconst dX6_readsStatement_90 ic_0 ?_
  exact tk_X6_readsStatement_91   (0 : Int32) h hw
def wk_X6_readsStatement_68   (Q : Int32 → gw_H → Prop) : gw_H → Prop :=
  fun h => (wp_X6_readsNumber h (0 : Int32) (1 : Int32) (fun r_5 h_4 => ((r_5 = 0 → (wk_X6_readsStatement_90   Q h_4)) ∧ (¬ r_5 = 0 → (wp_X6_readsNumber h_4 (1 : Int32) (1 : Int32) (fun r_12 h_11 => ((r_12 = 0 → (wk_X6_readsStatement_90   Q h_11)) ∧ (¬ r_12 = 0 → (wk_X6_readsStatement_91   Q (1 : Int32) h_11)))))))))
set_option maxRecDepth 100000 in
set_option maxHeartbeats 4000000 in
theorem tk_X6_readsStatement_68 {l : Launch} {ad : Nat → Nat} {X : gw_X}   {Q : Int32 → gw_H → Prop}    (h : gw_H) (hw : wk_X6_readsStatement_68   Q h) : gw_G l vM ad cX6_readsStatement RX6 3 (some .boolean) 3 65 Q X h 68 [some (.ref (ad 0)), none, none] [] := by
  unfold wk_X6_readsStatement_68 at hw
  refine gw_aload_n dX6_readsStatement_68 rfl rfl ?_
  refine gw_iconst dX6_readsStatement_69 ic_0 ?_
  refine gw_iconst dX6_readsStatement_70 ic_1 ?_
  refine gw_callVi (As := [.int (0 : Int32), .int (1 : Int32)]) (rest := []) rfl (gc_X6_readsNumber  hw) mX6_readsNumber lmX6_129 oX6 clX6 rfl rfl ⟨Nat.le_of_ble_eq_true rfl, Nat.le_of_ble_eq_true rfl⟩ (Nat.le_of_ble_eq_true rfl) dX6_readsStatement_71 (fun r_5 h_4 hw => ?_)
  refine gw_if_eq (tgt := 90) dX6_readsStatement_74 (by decide) (fun c_6 => ?_) (fun c_6 => ?_)
  · have hw := hw.1 c_6
    exact tk_X6_readsStatement_90   h_4 hw
  · have hw := hw.2 c_6
    refine gw_aload_n dX6_readsStatement_77 rfl rfl ?_
    refine gw_iconst dX6_readsStatement_78 ic_1 ?_
    refine gw_iconst dX6_readsStatement_79 ic_1 ?_
    refine gw_callVi (As := [.int (1 : Int32), .int (1 : Int32)]) (rest := []) rfl (gc_X6_readsNumber  hw) mX6_readsNumber lmX6_129 oX6 clX6 rfl rfl ⟨Nat.le_of_ble_eq_true rfl, Nat.le_of_ble_eq_true rfl⟩ (Nat.le_of_ble_eq_true rfl) dX6_readsStatement_80 (fun r_12 h_11 hw => ?_)
    refine gw_if_eq (tgt := 90) dX6_readsStatement_83 (by decide) (fun c_13 => ?_) (fun c_13 => ?_)
    · have hw := hw.1 c_13
      exact tk_X6_readsStatement_90   h_11 hw
    · have hw := hw.2 c_13
      refine gw_iconst dX6_readsStatement_86 ic_1 ?_
      refine gw_goto (tgt := 91) dX6_readsStatement_87 (by decide) ?_
      exact tk_X6_readsStatement_91   (1 : Int32) h_11 hw
def wp_X6_readsStatement (h : gw_H)  (Q : Int32 → gw_H → Prop) : Prop :=
  (wp_X6_sign h  (fun r_2 h_1 => ((r_2 = (100 : Int32) → (wk_X6_readsStatement_68   Q (gw_up h_1 0 14 ((h_1 0 14) + (1 : Int32))))) ∧ (¬ r_2 = (100 : Int32) → ((r_2 = (103 : Int32) → (wk_X6_readsStatement_68   Q (gw_up h_1 0 14 ((h_1 0 14) + (1 : Int32))))) ∧ (¬ r_2 = (103 : Int32) → ((r_2 = (104 : Int32) → (wp_X6_sign (gw_up h_1 0 14 ((h_1 0 14) + (1 : Int32)))  (fun r_17 h_16 => (wp_X6_headOf h_16 r_17 (fun r_19 h_18 => (wp_X6_readsKind h_18 r_19 (fun r_21 h_20 => (wk_X6_readsStatement_147   Q r_21 h_20)))))))) ∧ (¬ r_2 = (104 : Int32) → ((r_2 = (111 : Int32) → (wp_X6_readsNumber (gw_up h_1 0 14 ((h_1 0 14) + (1 : Int32))) (0 : Int32) (2 : Int32) (fun r_24 h_23 => (wk_X6_readsStatement_147   Q r_24 h_23)))) ∧ (¬ r_2 = (111 : Int32) → ((r_2 = (115 : Int32) → (wp_X6_sign (gw_up h_1 0 14 ((h_1 0 14) + (1 : Int32)))  (fun r_27 h_26 => (wp_X6_songOf h_26 r_27 (fun r_29 h_28 => (wp_X6_readsKind h_28 r_29 (fun r_31 h_30 => (wk_X6_readsStatement_147   Q r_31 h_30)))))))) ∧ (¬ r_2 = (115 : Int32) → Q (0 : Int32) (gw_up (gw_up h_1 0 14 ((h_1 0 14) + (1 : Int32))) 0 14 (((gw_up h_1 0 14 ((h_1 0 14) + (1 : Int32))) 0 14) - (1 : Int32)))))))))))))))
set_option maxRecDepth 100000 in
set_option maxHeartbeats 4000000 in
theorem gc_X6_readsStatement {l : Launch} {ad : Nat → Nat} {h : gw_H}  {Q : Int32 → gw_H → Prop}  (hw : wp_X6_readsStatement h  Q) : gw_C l yX6_readsStatement cX6_readsStatement 3 (some .boolean) 3 65 vM ad [.ref (ad 0)] h Q := by
  refine gw_entry (own := RX6) [some (.ref (ad 0)), none, none] pl_X6 rfl rfl (Nat.le_of_ble_eq_true rfl) rfl (fun X => ?_)
  unfold wp_X6_readsStatement at hw
  refine gw_aload_n dX6_readsStatement_0 rfl rfl ?_
  refine gw_callVi (As := []) (rest := []) rfl (gc_X6_sign  hw) mX6_sign lmX6_126 oX6 clX6 rfl rfl ⟨Nat.le_of_ble_eq_true rfl, Nat.le_of_ble_eq_true rfl⟩ (Nat.le_of_ble_eq_true rfl) dX6_readsStatement_1 (fun r_2 h_1 hw => ?_)
  refine gw_istore_n (ls' := [some (.ref (ad 0)), some (.int r_2), none]) dX6_readsStatement_4 rfl (Nat.le_of_ble_eq_true rfl) rfl ?_
  refine gw_iconst dX6_readsStatement_5 ic_0 ?_
  refine gw_istore_n (ls' := [some (.ref (ad 0)), some (.int r_2), some (.int (0 : Int32))]) dX6_readsStatement_6 rfl (Nat.le_of_ble_eq_true rfl) rfl ?_
  refine gw_aload_n dX6_readsStatement_7 rfl rfl ?_
  refine gw_dup dX6_readsStatement_8 rfl ?_
  refine gw_getf (k := 14) (v := .int (h_1 0 14)) oX6 clX6 inUX6 (Nat.le_of_ble_eq_true rfl) rfl lfX6_123 rfl dX6_readsStatement_9 ?_
  refine gw_iconst dX6_readsStatement_12 ic_1 ?_
  refine gw_iadd dX6_readsStatement_13 ?_
  refine gw_putf (k := 14) (ty := .int) oX6 clX6 inUX6 tyX6_ok nmX6 (Nat.le_of_ble_eq_true rfl) rfl lfX6_123 (by decide +kernel) rfl rfl st_X6_14 dX6_readsStatement_14 ?_
  refine gw_iload_n dX6_readsStatement_17 rfl rfl ?_
  by_cases c_3 : r_2 = (100 : Int32)
  · have hw := hw.1 c_3
    refine gw_lsw (off := 50) (tgt := 68) dX6_readsStatement_18 (by decide) (by rw [c_3]; decide) (by decide) ?_
    refine gw_forget (ls' := [some (.ref (ad 0)), none, none]) (gw_sub.s (gw_sub.n (gw_sub.n gw_sub.z))) ?_
    exact tk_X6_readsStatement_68   (gw_up h_1 0 14 ((h_1 0 14) + (1 : Int32))) hw
  · have hw := hw.2 c_3
    by_cases c_14 : r_2 = (103 : Int32)
    · have hw := hw.1 c_14
      refine gw_lsw (off := 50) (tgt := 68) dX6_readsStatement_18 (by decide) (by rw [c_14]; decide) (by decide) ?_
      refine gw_forget (ls' := [some (.ref (ad 0)), none, none]) (gw_sub.s (gw_sub.n (gw_sub.n gw_sub.z))) ?_
      exact tk_X6_readsStatement_68   (gw_up h_1 0 14 ((h_1 0 14) + (1 : Int32))) hw
    · have hw := hw.2 c_14
      by_cases c_15 : r_2 = (104 : Int32)
      · have hw := hw.1 c_15
        refine gw_lsw (off := 92) (tgt := 110) dX6_readsStatement_18 (by decide) (by rw [c_15]; decide) (by decide) ?_
        refine gw_aload_n dX6_readsStatement_110 rfl rfl ?_
        refine gw_aload_n dX6_readsStatement_111 rfl rfl ?_
        refine gw_callVi (As := []) (rest := [.ref (ad 0)]) rfl (gc_X6_sign  hw) mX6_sign lmX6_126 oX6 clX6 rfl rfl ⟨Nat.le_of_ble_eq_true rfl, Nat.le_of_ble_eq_true rfl⟩ (Nat.le_of_ble_eq_true rfl) dX6_readsStatement_112 (fun r_17 h_16 hw => ?_)
        refine gw_callSi (As := [.int r_17]) (rest := [.ref (ad 0)]) rfl (gc_X6_headOf  hw) mX6_headOf lmX6_138 rfl rfl ⟨Nat.le_of_ble_eq_true rfl, Nat.le_of_ble_eq_true rfl⟩ (Nat.le_of_ble_eq_true rfl) dX6_readsStatement_115 (fun r_19 h_18 hw => ?_)
        refine gw_callVi (As := [.int r_19]) (rest := []) rfl (gc_X6_readsKind  hw) mX6_readsKind lmX6_135 oX6 clX6 rfl rfl ⟨Nat.le_of_ble_eq_true rfl, Nat.le_of_ble_eq_true rfl⟩ (Nat.le_of_ble_eq_true rfl) dX6_readsStatement_118 (fun r_21 h_20 hw => ?_)
        refine gw_istore_n (ls' := [some (.ref (ad 0)), some (.int r_2), some (.int r_21)]) dX6_readsStatement_121 rfl (Nat.le_of_ble_eq_true rfl) rfl ?_
        refine gw_goto (tgt := 147) dX6_readsStatement_122 (by decide) ?_
        refine gw_forget (ls' := [some (.ref (ad 0)), none, some (.int r_21)]) (gw_sub.s (gw_sub.n (gw_sub.s gw_sub.z))) ?_
        exact tk_X6_readsStatement_147   r_21 h_20 hw
      · have hw := hw.2 c_15
        by_cases c_22 : r_2 = (111 : Int32)
        · have hw := hw.1 c_22
          refine gw_lsw (off := 107) (tgt := 125) dX6_readsStatement_18 (by decide) (by rw [c_22]; decide) (by decide) ?_
          refine gw_aload_n dX6_readsStatement_125 rfl rfl ?_
          refine gw_iconst dX6_readsStatement_126 ic_0 ?_
          refine gw_iconst dX6_readsStatement_127 ic_2 ?_
          refine gw_callVi (As := [.int (0 : Int32), .int (2 : Int32)]) (rest := []) rfl (gc_X6_readsNumber  hw) mX6_readsNumber lmX6_129 oX6 clX6 rfl rfl ⟨Nat.le_of_ble_eq_true rfl, Nat.le_of_ble_eq_true rfl⟩ (Nat.le_of_ble_eq_true rfl) dX6_readsStatement_128 (fun r_24 h_23 hw => ?_)
          refine gw_istore_n (ls' := [some (.ref (ad 0)), some (.int r_2), some (.int r_24)]) dX6_readsStatement_131 rfl (Nat.le_of_ble_eq_true rfl) rfl ?_
          refine gw_goto (tgt := 147) dX6_readsStatement_132 (by decide) ?_
          refine gw_forget (ls' := [some (.ref (ad 0)), none, some (.int r_24)]) (gw_sub.s (gw_sub.n (gw_sub.s gw_sub.z))) ?_
          exact tk_X6_readsStatement_147   r_24 h_23 hw
        · have hw := hw.2 c_22
          by_cases c_25 : r_2 = (115 : Int32)
          · have hw := hw.1 c_25
            refine gw_lsw (off := 77) (tgt := 95) dX6_readsStatement_18 (by decide) (by rw [c_25]; decide) (by decide) ?_
            refine gw_aload_n dX6_readsStatement_95 rfl rfl ?_
            refine gw_aload_n dX6_readsStatement_96 rfl rfl ?_
            refine gw_callVi (As := []) (rest := [.ref (ad 0)]) rfl (gc_X6_sign  hw) mX6_sign lmX6_126 oX6 clX6 rfl rfl ⟨Nat.le_of_ble_eq_true rfl, Nat.le_of_ble_eq_true rfl⟩ (Nat.le_of_ble_eq_true rfl) dX6_readsStatement_97 (fun r_27 h_26 hw => ?_)
            refine gw_callSi (As := [.int r_27]) (rest := [.ref (ad 0)]) rfl (gc_X6_songOf  hw) mX6_songOf lmX6_132 rfl rfl ⟨Nat.le_of_ble_eq_true rfl, Nat.le_of_ble_eq_true rfl⟩ (Nat.le_of_ble_eq_true rfl) dX6_readsStatement_100 (fun r_29 h_28 hw => ?_)
            refine gw_callVi (As := [.int r_29]) (rest := []) rfl (gc_X6_readsKind  hw) mX6_readsKind lmX6_135 oX6 clX6 rfl rfl ⟨Nat.le_of_ble_eq_true rfl, Nat.le_of_ble_eq_true rfl⟩ (Nat.le_of_ble_eq_true rfl) dX6_readsStatement_103 (fun r_31 h_30 hw => ?_)
            refine gw_istore_n (ls' := [some (.ref (ad 0)), some (.int r_2), some (.int r_31)]) dX6_readsStatement_106 rfl (Nat.le_of_ble_eq_true rfl) rfl ?_
            refine gw_goto (tgt := 147) dX6_readsStatement_107 (by decide) ?_
            refine gw_forget (ls' := [some (.ref (ad 0)), none, some (.int r_31)]) (gw_sub.s (gw_sub.n (gw_sub.s gw_sub.z))) ?_
            exact tk_X6_readsStatement_147   r_31 h_30 hw
          · have hw := hw.2 c_25
            refine gw_lsw (off := 117) (tgt := 135) dX6_readsStatement_18 (by decide) ((lv_osw c_3 (by decide)).trans ((lv_osw c_14 (by decide)).trans ((lv_osw c_15 (by decide)).trans ((lv_osw c_22 (by decide)).trans ((lv_osw c_25 (by decide)).trans rfl))))) (by decide) ?_
            refine gw_aload_n dX6_readsStatement_135 rfl rfl ?_
            refine gw_dup dX6_readsStatement_136 rfl ?_
            refine gw_getf (k := 14) (v := .int ((gw_up h_1 0 14 ((h_1 0 14) + (1 : Int32))) 0 14)) oX6 clX6 inUX6 (Nat.le_of_ble_eq_true rfl) rfl lfX6_123 rfl dX6_readsStatement_137 ?_
            refine gw_iconst dX6_readsStatement_140 ic_1 ?_
            refine gw_isub dX6_readsStatement_141 ?_
            refine gw_putf (k := 14) (ty := .int) oX6 clX6 inUX6 tyX6_ok nmX6 (Nat.le_of_ble_eq_true rfl) rfl lfX6_123 (by decide +kernel) rfl rfl st_X6_14 dX6_readsStatement_142 ?_
            refine gw_iconst dX6_readsStatement_145 ic_0 ?_
            exact gw_ireturn (ty := .boolean) hw rfl rfl dX6_readsStatement_146
def wl_X6_reads_53   (Q : Int32 → gw_H → Prop) : Nat → Int32 → gw_H → Prop
  | 0 => fun _ _ => False
  | n + 1 => fun x1 h => (((h 0 13) ≤ (h 0 14) → Q x1 h) ∧ (¬ (h 0 13) ≤ (h 0 14) → (wp_X6_sign h  (fun r_8 h_7 => (wp_X6_readsStatement h_7  (fun r_10 h_9 => (wp_X6_comes h_9 r_8 (fun r_12 h_11 => ((¬ r_12 = 0 → ((wl_X6_reads_53   Q n) x1 h_11)) ∧ (r_12 = 0 → (wp_X6_lays h_11 (4) 73 (2) 73 (fun _ h_14 => Q ((-2000 : Int32) - (h 0 14)) h_14))))))))))))
set_option maxRecDepth 100000 in
set_option maxHeartbeats 4000000 in
theorem tl_X6_reads_53 {l : Launch} {ad : Nat → Nat} {X : gw_X}   {Q : Int32 → gw_H → Prop}   : ∀ (n : Nat) (x1 : Int32) (h : gw_H), wl_X6_reads_53   Q n x1 h → gw_G l vM ad cX6_reads RX6 5 (some .int) 4 91 Q X h 53 [some (.ref (ad 0)), some (.int x1), none, none, none] [] := by
  intro n
  induction n with
  | zero => intro x1 h hw; exact hw.elim
  | succ n ih =>
    intro x1 h hw
    unfold wl_X6_reads_53 at hw
    refine gw_aload_n dX6_reads_53 rfl rfl ?_
    refine gw_getf (k := 14) (v := .int (h 0 14)) oX6 clX6 inUX6 (Nat.le_of_ble_eq_true rfl) rfl lfX6_123 rfl dX6_reads_54 ?_
    refine gw_aload_n dX6_reads_57 rfl rfl ?_
    refine gw_getf (k := 13) (v := .int (h 0 13)) oX6 clX6 inUX6 (Nat.le_of_ble_eq_true rfl) rfl lfX6_116 rfl dX6_reads_58 ?_
    refine gw_icmp_ge (tgt := 108) dX6_reads_61 (by decide) (fun c_6 => ?_) (fun c_6 => ?_)
    · have hw := hw.1 c_6
      refine gw_iload_n dX6_reads_108 rfl rfl ?_
      exact gw_ireturn (ty := .int) hw rfl rfl dX6_reads_109
    · have hw := hw.2 c_6
      refine gw_aload_n dX6_reads_64 rfl rfl ?_
      refine gw_getf (k := 14) (v := .int (h 0 14)) oX6 clX6 inUX6 (Nat.le_of_ble_eq_true rfl) rfl lfX6_123 rfl dX6_reads_65 ?_
      refine gw_istore_n (ls' := [some (.ref (ad 0)), some (.int x1), some (.int (h 0 14)), none, none]) dX6_reads_68 rfl (Nat.le_of_ble_eq_true rfl) rfl ?_
      refine gw_aload_n dX6_reads_69 rfl rfl ?_
      refine gw_callVi (As := []) (rest := []) rfl (gc_X6_sign  hw) mX6_sign lmX6_126 oX6 clX6 rfl rfl ⟨Nat.le_of_ble_eq_true rfl, Nat.le_of_ble_eq_true rfl⟩ (Nat.le_of_ble_eq_true rfl) dX6_reads_70 (fun r_8 h_7 hw => ?_)
      refine gw_istore_n (ls' := [some (.ref (ad 0)), some (.int x1), some (.int (h 0 14)), some (.int r_8), none]) dX6_reads_73 rfl (Nat.le_of_ble_eq_true rfl) rfl ?_
      refine gw_aload_n dX6_reads_74 rfl rfl ?_
      refine gw_callVi (As := []) (rest := []) rfl (gc_X6_readsStatement  hw) mX6_readsStatement lmX6_150 oX6 clX6 rfl rfl ⟨Nat.le_of_ble_eq_true rfl, Nat.le_of_ble_eq_true rfl⟩ (Nat.le_of_ble_eq_true rfl) dX6_reads_75 (fun r_10 h_9 hw => ?_)
      refine gw_istore (ls' := [some (.ref (ad 0)), some (.int x1), some (.int (h 0 14)), some (.int r_8), some (.int r_10)]) dX6_reads_78 (Nat.le_of_ble_eq_true rfl) rfl ?_
      refine gw_aload_n dX6_reads_80 rfl rfl ?_
      refine gw_iload_n dX6_reads_81 rfl rfl ?_
      refine gw_callVi (As := [.int r_8]) (rest := []) rfl (gc_X6_comes  hw) mX6_comes lmX6_154 oX6 clX6 rfl rfl ⟨Nat.le_of_ble_eq_true rfl, Nat.le_of_ble_eq_true rfl⟩ (Nat.le_of_ble_eq_true rfl) dX6_reads_82 (fun r_12 h_11 hw => ?_)
      refine gw_if_ne (tgt := 105) dX6_reads_85 (by decide) (fun c_13 => ?_) (fun c_13 => ?_)
      · have hw := hw.1 c_13
        refine gw_goto (tgt := 53) dX6_reads_105 (by decide) ?_
        refine gw_forget (ls' := [some (.ref (ad 0)), some (.int x1), none, none, none]) (gw_sub.s (gw_sub.s (gw_sub.n (gw_sub.n (gw_sub.n gw_sub.z))))) ?_
        exact ih x1 h_11 hw
      · have hw := hw.2 c_13
        refine gw_aload_n dX6_reads_88 rfl rfl ?_
        refine gw_getf (k := 3) (v := .ref (ad 4)) oX6 clX6 inUX6 (Nat.le_of_ble_eq_true rfl) rfl lfX6_19 rfl dX6_reads_89 ?_
        refine gw_aload_n dX6_reads_92 rfl rfl ?_
        refine gw_getf (k := 1) (v := .ref (ad 2)) oX6 clX6 inUX6 (Nat.le_of_ble_eq_true rfl) rfl lfX6_13 rfl dX6_reads_93 ?_
        refine gw_callSv (As := [.ref (ad 4), .ref (ad 2)]) (rest := []) rfl (gc_X6_lays am_4 am_2 hw) mX6_lays lmX6_49 rfl rfl ⟨Nat.le_of_ble_eq_true rfl, Nat.le_of_ble_eq_true rfl⟩ (Nat.le_of_ble_eq_true rfl) dX6_reads_96 (fun h_14 hw => ?_)
        refine gw_sipush dX6_reads_99 sp_m2000 ?_
        refine gw_iload_n dX6_reads_102 rfl rfl ?_
        refine gw_isub dX6_reads_103 ?_
        exact gw_ireturn (ty := .int) hw rfl rfl dX6_reads_104
def wl_X6_reads_7   (Q : Int32 → gw_H → Prop) : Nat → Int32 → gw_H → Prop
  | 0 => fun _ _ => False
  | n + 1 => fun x1 h => (wp_X6_readsStatement h  (fun r_2 h_1 => ((¬ r_2 = 0 → (((h_1 0 14) < (h_1 0 13) → ((wl_X6_reads_7   Q n) (x1 + (1 : Int32)) h_1)) ∧ (¬ (h_1 0 14) < (h_1 0 13) → (wp_X6_lays h_1 (2) 73 (4) 73 (fun _ h_5 => (∃ n_15 : Nat, wl_X6_reads_53   Q n_15 (x1 + (1 : Int32)) (gw_up h_5 0 14 (0 : Int32)))))))) ∧ (r_2 = 0 → Q ((-1000 : Int32) - (h_1 0 14)) h_1))))
set_option maxRecDepth 100000 in
set_option maxHeartbeats 4000000 in
theorem tl_X6_reads_7 {l : Launch} {ad : Nat → Nat} {X : gw_X}   {Q : Int32 → gw_H → Prop}   : ∀ (n : Nat) (x1 : Int32) (h : gw_H), wl_X6_reads_7   Q n x1 h → gw_G l vM ad cX6_reads RX6 5 (some .int) 4 91 Q X h 7 [some (.ref (ad 0)), some (.int x1), none, none, none] [] := by
  intro n
  induction n with
  | zero => intro x1 h hw; exact hw.elim
  | succ n ih =>
    intro x1 h hw
    unfold wl_X6_reads_7 at hw
    refine gw_aload_n dX6_reads_7 rfl rfl ?_
    refine gw_callVi (As := []) (rest := []) rfl (gc_X6_readsStatement  hw) mX6_readsStatement lmX6_150 oX6 clX6 rfl rfl ⟨Nat.le_of_ble_eq_true rfl, Nat.le_of_ble_eq_true rfl⟩ (Nat.le_of_ble_eq_true rfl) dX6_reads_8 (fun r_2 h_1 hw => ?_)
    refine gw_if_ne (tgt := 23) dX6_reads_11 (by decide) (fun c_3 => ?_) (fun c_3 => ?_)
    · have hw := hw.1 c_3
      refine gw_iinc (ls' := [some (.ref (ad 0)), some (.int (x1 + (1 : Int32))), none, none, none]) dX6_reads_23 rfl (congrArg (fun z => x1 + z) ic_1) (Nat.le_of_ble_eq_true rfl) rfl ?_
      refine gw_aload_n dX6_reads_26 rfl rfl ?_
      refine gw_getf (k := 14) (v := .int (h_1 0 14)) oX6 clX6 inUX6 (Nat.le_of_ble_eq_true rfl) rfl lfX6_123 rfl dX6_reads_27 ?_
      refine gw_aload_n dX6_reads_30 rfl rfl ?_
      refine gw_getf (k := 13) (v := .int (h_1 0 13)) oX6 clX6 inUX6 (Nat.le_of_ble_eq_true rfl) rfl lfX6_116 rfl dX6_reads_31 ?_
      refine gw_icmp_lt (tgt := 7) dX6_reads_34 (by decide) (fun c_4 => ?_) (fun c_4 => ?_)
      · have hw := hw.1 c_4
        exact ih (x1 + (1 : Int32)) h_1 hw
      · have hw := hw.2 c_4
        refine gw_aload_n dX6_reads_37 rfl rfl ?_
        refine gw_getf (k := 1) (v := .ref (ad 2)) oX6 clX6 inUX6 (Nat.le_of_ble_eq_true rfl) rfl lfX6_13 rfl dX6_reads_38 ?_
        refine gw_aload_n dX6_reads_41 rfl rfl ?_
        refine gw_getf (k := 3) (v := .ref (ad 4)) oX6 clX6 inUX6 (Nat.le_of_ble_eq_true rfl) rfl lfX6_19 rfl dX6_reads_42 ?_
        refine gw_callSv (As := [.ref (ad 2), .ref (ad 4)]) (rest := []) rfl (gc_X6_lays am_2 am_4 hw) mX6_lays lmX6_49 rfl rfl ⟨Nat.le_of_ble_eq_true rfl, Nat.le_of_ble_eq_true rfl⟩ (Nat.le_of_ble_eq_true rfl) dX6_reads_45 (fun h_5 hw => ?_)
        refine gw_aload_n dX6_reads_48 rfl rfl ?_
        refine gw_iconst dX6_reads_49 ic_0 ?_
        refine gw_putf (k := 14) (ty := .int) oX6 clX6 inUX6 tyX6_ok nmX6 (Nat.le_of_ble_eq_true rfl) rfl lfX6_123 (by decide +kernel) rfl rfl st_X6_14 dX6_reads_50 ?_
        obtain ⟨n_15, hw⟩ := hw
        exact tl_X6_reads_53   n_15 (x1 + (1 : Int32)) (gw_up h_5 0 14 (0 : Int32)) hw
    · have hw := hw.2 c_3
      refine gw_sipush dX6_reads_14 sp_m1000 ?_
      refine gw_aload_n dX6_reads_17 rfl rfl ?_
      refine gw_getf (k := 14) (v := .int (h_1 0 14)) oX6 clX6 inUX6 (Nat.le_of_ble_eq_true rfl) rfl lfX6_123 rfl dX6_reads_18 ?_
      refine gw_isub dX6_reads_21 ?_
      exact gw_ireturn (ty := .int) hw rfl rfl dX6_reads_22
def wp_X6_reads (h : gw_H)  (Q : Int32 → gw_H → Prop) : Prop :=
  (∃ n_16 : Nat, wl_X6_reads_7   Q n_16 (0 : Int32) (gw_up h 0 14 (0 : Int32)))
set_option maxRecDepth 100000 in
set_option maxHeartbeats 4000000 in
theorem gc_X6_reads {l : Launch} {ad : Nat → Nat} {h : gw_H}  {Q : Int32 → gw_H → Prop}  (hw : wp_X6_reads h  Q) : gw_C l yX6_reads cX6_reads 5 (some .int) 4 91 vM ad [.ref (ad 0)] h Q := by
  refine gw_entry (own := RX6) [some (.ref (ad 0)), none, none, none, none] pl_X6 rfl rfl (Nat.le_of_ble_eq_true rfl) rfl (fun X => ?_)
  unfold wp_X6_reads at hw
  refine gw_aload_n dX6_reads_0 rfl rfl ?_
  refine gw_iconst dX6_reads_1 ic_0 ?_
  refine gw_putf (k := 14) (ty := .int) oX6 clX6 inUX6 tyX6_ok nmX6 (Nat.le_of_ble_eq_true rfl) rfl lfX6_123 (by decide +kernel) rfl rfl st_X6_14 dX6_reads_2 ?_
  refine gw_iconst dX6_reads_5 ic_0 ?_
  refine gw_istore_n (ls' := [some (.ref (ad 0)), some (.int (0 : Int32)), none, none, none]) dX6_reads_6 rfl (Nat.le_of_ble_eq_true rfl) rfl ?_
  obtain ⟨n_16, hw⟩ := hw
  exact tl_X6_reads_7   n_16 (0 : Int32) (gw_up h 0 14 (0 : Int32)) hw
def wp_X6_office (h : gw_H)  (Q : Int32 → gw_H → Prop) : Prop :=
  (wp_X6_reads h  (fun r_2 h_1 => Q r_2 (gw_up h_1 0 13 (0 : Int32))))
set_option maxRecDepth 100000 in
set_option maxHeartbeats 4000000 in
theorem gc_X6_office {l : Launch} {ad : Nat → Nat} {h : gw_H}  {Q : Int32 → gw_H → Prop}  (hw : wp_X6_office h  Q) : gw_C l yX6_office cX6_office 2 (some .int) 5 115 vM ad [.ref (ad 0)] h Q := by
  refine gw_entry (own := RX6) [some (.ref (ad 0)), none] pl_X6 rfl rfl (Nat.le_of_ble_eq_true rfl) rfl (fun X => ?_)
  unfold wp_X6_office at hw
  refine gw_aload_n dX6_office_0 rfl rfl ?_
  refine gw_callVi (As := []) (rest := []) rfl (gc_X6_reads  hw) mX6_reads lmX6_157 oX6 clX6 rfl rfl ⟨Nat.le_of_ble_eq_true rfl, Nat.le_of_ble_eq_true rfl⟩ (Nat.le_of_ble_eq_true rfl) dX6_office_1 (fun r_2 h_1 hw => ?_)
  refine gw_istore_n (ls' := [some (.ref (ad 0)), some (.int r_2)]) dX6_office_4 rfl (Nat.le_of_ble_eq_true rfl) rfl ?_
  refine gw_aload_n dX6_office_5 rfl rfl ?_
  refine gw_iconst dX6_office_6 ic_0 ?_
  refine gw_putf (k := 13) (ty := .int) oX6 clX6 inUX6 tyX6_ok nmX6 (Nat.le_of_ble_eq_true rfl) rfl lfX6_116 (by decide +kernel) rfl rfl st_X6_13 dX6_office_7 ?_
  refine gw_iload_n dX6_office_10 rfl rfl ?_
  exact gw_ireturn (ty := .int) hw rfl rfl dX6_office_11
def wp_X6_on (h : gw_H)  (Q : Int32 → gw_H → Prop) : Prop :=
  ((¬ (h 0 5) = 0 → (wp_X6_lays h (3) 73 (2) 73 (fun _ h_2 => Q (h_2 2 4) h_2))) ∧ ((h 0 5) = 0 → (wp_X6_refuse h (-3 : Int32) (fun r_4 h_3 => Q r_4 h_3))))
set_option maxRecDepth 100000 in
set_option maxHeartbeats 4000000 in
theorem gc_X6_on {l : Launch} {ad : Nat → Nat} {h : gw_H}  {Q : Int32 → gw_H → Prop}  (hw : wp_X6_on h  Q) : gw_C l yX6_on cX6_on 1 (some .int) 1 22 vM ad [.ref (ad 0)] h Q := by
  refine gw_entry (own := RX6) [some (.ref (ad 0))] pl_X6 rfl rfl (Nat.le_of_ble_eq_true rfl) rfl (fun X => ?_)
  unfold wp_X6_on at hw
  refine gw_aload_n dX6_on_0 rfl rfl ?_
  refine gw_getf (k := 5) (v := .int (h 0 5)) oX6 clX6 inUX6 (Nat.le_of_ble_eq_true rfl) rfl lfX6_192 rfl dX6_on_1 ?_
  refine gw_if_ne (tgt := 14) dX6_on_4 (by decide) (fun c_1 => ?_) (fun c_1 => ?_)
  · have hw := hw.1 c_1
    refine gw_aload_n dX6_on_14 rfl rfl ?_
    refine gw_getf (k := 2) (v := .ref (ad 3)) oX6 clX6 inUX6 (Nat.le_of_ble_eq_true rfl) rfl lfX6_16 rfl dX6_on_15 ?_
    refine gw_aload_n dX6_on_18 rfl rfl ?_
    refine gw_getf (k := 1) (v := .ref (ad 2)) oX6 clX6 inUX6 (Nat.le_of_ble_eq_true rfl) rfl lfX6_13 rfl dX6_on_19 ?_
    refine gw_callSv (As := [.ref (ad 3), .ref (ad 2)]) (rest := []) rfl (gc_X6_lays am_3 am_2 hw) mX6_lays lmX6_49 rfl rfl ⟨Nat.le_of_ble_eq_true rfl, Nat.le_of_ble_eq_true rfl⟩ (Nat.le_of_ble_eq_true rfl) dX6_on_22 (fun h_2 hw => ?_)
    refine gw_aload_n dX6_on_25 rfl rfl ?_
    refine gw_getf (k := 1) (v := .ref (ad 2)) oX6 clX6 inUX6 (Nat.le_of_ble_eq_true rfl) rfl lfX6_13 rfl dX6_on_26 ?_
    refine gw_iconst dX6_on_29 ic_4 ?_
    refine gw_iald am_2 in_4_73 cl_4 dX6_on_30 ?_
    exact gw_ireturn (ty := .int) hw rfl rfl dX6_on_31
  · have hw := hw.2 c_1
    refine gw_aload_n dX6_on_7 rfl rfl ?_
    refine gw_bipush dX6_on_8 bp_m3 ?_
    refine gw_callVi (As := [.int (-3 : Int32)]) (rest := []) rfl (gc_X6_refuse  hw) mX6_refuse lmX6_120 oX6 clX6 rfl rfl ⟨Nat.le_of_ble_eq_true rfl, Nat.le_of_ble_eq_true rfl⟩ (Nat.le_of_ble_eq_true rfl) dX6_on_10 (fun r_4 h_3 hw => ?_)
    exact gw_ireturn (ty := .int) hw rfl rfl dX6_on_13
def wk_X6_otherwise_195 (p1 : Int32) (p2 : Int32) (K69 : Int32 → Int32 → Int32 → gw_H → Prop) (Q : Int32 → gw_H → Prop) : Int32 → Int32 → Int32 → gw_H → Prop :=
  fun x4 x5 x6 h => (K69 x4 x5 (x6 + (1 : Int32)) h)
set_option maxRecDepth 100000 in
set_option maxHeartbeats 4000000 in
theorem tk_X6_otherwise_195 {l : Launch} {ad : Nat → Nat} {X : gw_X} {p1 : Int32} {p2 : Int32} {K69 : Int32 → Int32 → Int32 → gw_H → Prop} {Q : Int32 → gw_H → Prop}  (hK69 : ∀ (y4 : Int32) (y5 : Int32) (y6 : Int32) (h : gw_H), K69 y4 y5 y6 h → gw_G l vM ad cX6_otherwise RX6 10 (some .int) 6 135 Q X h 69 [some (.ref (ad 0)), some (.int p1), some (.int p2), none, some (.int y4), some (.int y5), some (.int y6), none, none, none] []) (x4 : Int32) (x5 : Int32) (x6 : Int32) (h : gw_H) (hw : wk_X6_otherwise_195 p1 p2 K69 Q x4 x5 x6 h) : gw_G l vM ad cX6_otherwise RX6 10 (some .int) 6 135 Q X h 195 [some (.ref (ad 0)), some (.int p1), some (.int p2), none, some (.int x4), some (.int x5), some (.int x6), none, none, none] [] := by
  unfold wk_X6_otherwise_195 at hw
  refine gw_iinc (ls' := [some (.ref (ad 0)), some (.int p1), some (.int p2), none, some (.int x4), some (.int x5), some (.int (x6 + (1 : Int32))), none, none, none]) dX6_otherwise_195 rfl (congrArg (fun z => x6 + z) ic_1) (Nat.le_of_ble_eq_true rfl) rfl ?_
  refine gw_goto (tgt := 69) dX6_otherwise_198 (by decide) ?_
  exact hK69 x4 x5 (x6 + (1 : Int32)) h hw
def wk_X6_otherwise_192 (p1 : Int32) (p2 : Int32) (K69 : Int32 → Int32 → Int32 → gw_H → Prop) (Q : Int32 → gw_H → Prop) : Int32 → Int32 → Int32 → Int32 → gw_H → Prop :=
  fun x5 x6 s0 s1 h => (wk_X6_otherwise_195 p1 p2 K69 Q (s1 + s0) x5 x6 h)
set_option maxRecDepth 100000 in
set_option maxHeartbeats 4000000 in
theorem tk_X6_otherwise_192 {l : Launch} {ad : Nat → Nat} {X : gw_X} {p1 : Int32} {p2 : Int32} {K69 : Int32 → Int32 → Int32 → gw_H → Prop} {Q : Int32 → gw_H → Prop}  (hK69 : ∀ (y4 : Int32) (y5 : Int32) (y6 : Int32) (h : gw_H), K69 y4 y5 y6 h → gw_G l vM ad cX6_otherwise RX6 10 (some .int) 6 135 Q X h 69 [some (.ref (ad 0)), some (.int p1), some (.int p2), none, some (.int y4), some (.int y5), some (.int y6), none, none, none] []) (x5 : Int32) (x6 : Int32) (s0 : Int32) (s1 : Int32) (h : gw_H) (hw : wk_X6_otherwise_192 p1 p2 K69 Q x5 x6 s0 s1 h) : gw_G l vM ad cX6_otherwise RX6 10 (some .int) 6 135 Q X h 192 [some (.ref (ad 0)), some (.int p1), some (.int p2), none, none, some (.int x5), some (.int x6), none, none, none] [.int s0, .int s1] := by
  unfold wk_X6_otherwise_192 at hw
  refine gw_iadd dX6_otherwise_192 ?_
  refine gw_istore (ls' := [some (.ref (ad 0)), some (.int p1), some (.int p2), none, some (.int (s1 + s0)), some (.int x5), some (.int x6), none, none, none]) dX6_otherwise_193 (Nat.le_of_ble_eq_true rfl) rfl ?_
  exact tk_X6_otherwise_195  hK69 (s1 + s0) x5 x6 h hw
def wk_X6_otherwise_178 (p1 : Int32) (p2 : Int32) (K69 : Int32 → Int32 → Int32 → gw_H → Prop) (Q : Int32 → gw_H → Prop) : Int32 → Int32 → Int32 → Int32 → gw_H → Prop :=
  fun x4 x6 x9 s0 h => ((x9 = 0 → (wk_X6_otherwise_192 p1 p2 K69 Q s0 x6 (0 : Int32) x4 h)) ∧ (¬ x9 = 0 → (wk_X6_otherwise_192 p1 p2 K69 Q s0 x6 (1 : Int32) x4 h)))
set_option maxRecDepth 100000 in
set_option maxHeartbeats 4000000 in
theorem tk_X6_otherwise_178 {l : Launch} {ad : Nat → Nat} {X : gw_X} {p1 : Int32} {p2 : Int32} {K69 : Int32 → Int32 → Int32 → gw_H → Prop} {Q : Int32 → gw_H → Prop}  (hK69 : ∀ (y4 : Int32) (y5 : Int32) (y6 : Int32) (h : gw_H), K69 y4 y5 y6 h → gw_G l vM ad cX6_otherwise RX6 10 (some .int) 6 135 Q X h 69 [some (.ref (ad 0)), some (.int p1), some (.int p2), none, some (.int y4), some (.int y5), some (.int y6), none, none, none] []) (x4 : Int32) (x6 : Int32) (x9 : Int32) (s0 : Int32) (h : gw_H) (hw : wk_X6_otherwise_178 p1 p2 K69 Q x4 x6 x9 s0 h) : gw_G l vM ad cX6_otherwise RX6 10 (some .int) 6 135 Q X h 178 [some (.ref (ad 0)), some (.int p1), some (.int p2), none, some (.int x4), none, some (.int x6), none, none, some (.int x9)] [.int s0] := by
  unfold wk_X6_otherwise_178 at hw
  refine gw_istore (ls' := [some (.ref (ad 0)), some (.int p1), some (.int p2), none, some (.int x4), some (.int s0), some (.int x6), none, none, some (.int x9)]) dX6_otherwise_178 (Nat.le_of_ble_eq_true rfl) rfl ?_
  refine gw_iload dX6_otherwise_180 rfl ?_
  refine gw_iload dX6_otherwise_182 rfl ?_
  refine gw_if_eq (tgt := 191) dX6_otherwise_184 (by decide) (fun c_19 => ?_) (fun c_19 => ?_)
  · have hw := hw.1 c_19
    refine gw_iconst dX6_otherwise_191 ic_0 ?_
    refine gw_forget (ls' := [some (.ref (ad 0)), some (.int p1), some (.int p2), none, none, some (.int s0), some (.int x6), none, none, none]) (gw_sub.s (gw_sub.s (gw_sub.s (gw_sub.n (gw_sub.n (gw_sub.s (gw_sub.s (gw_sub.n (gw_sub.n (gw_sub.n gw_sub.z)))))))))) ?_
    exact tk_X6_otherwise_192  hK69 s0 x6 (0 : Int32) x4 h hw
  · have hw := hw.2 c_19
    refine gw_iconst dX6_otherwise_187 ic_1 ?_
    refine gw_goto (tgt := 192) dX6_otherwise_188 (by decide) ?_
    refine gw_forget (ls' := [some (.ref (ad 0)), some (.int p1), some (.int p2), none, none, some (.int s0), some (.int x6), none, none, none]) (gw_sub.s (gw_sub.s (gw_sub.s (gw_sub.n (gw_sub.n (gw_sub.s (gw_sub.s (gw_sub.n (gw_sub.n (gw_sub.n gw_sub.z)))))))))) ?_
    exact tk_X6_otherwise_192  hK69 s0 x6 (1 : Int32) x4 h hw
def wk_X6_otherwise_176 (p1 : Int32) (p2 : Int32) (K69 : Int32 → Int32 → Int32 → gw_H → Prop) (Q : Int32 → gw_H → Prop) : Int32 → Int32 → Int32 → Int32 → gw_H → Prop :=
  fun x4 x5 x6 x9 h => (wk_X6_otherwise_178 p1 p2 K69 Q x4 x6 x9 x5 h)
set_option maxRecDepth 100000 in
set_option maxHeartbeats 4000000 in
theorem tk_X6_otherwise_176 {l : Launch} {ad : Nat → Nat} {X : gw_X} {p1 : Int32} {p2 : Int32} {K69 : Int32 → Int32 → Int32 → gw_H → Prop} {Q : Int32 → gw_H → Prop}  (hK69 : ∀ (y4 : Int32) (y5 : Int32) (y6 : Int32) (h : gw_H), K69 y4 y5 y6 h → gw_G l vM ad cX6_otherwise RX6 10 (some .int) 6 135 Q X h 69 [some (.ref (ad 0)), some (.int p1), some (.int p2), none, some (.int y4), some (.int y5), some (.int y6), none, none, none] []) (x4 : Int32) (x5 : Int32) (x6 : Int32) (x9 : Int32) (h : gw_H) (hw : wk_X6_otherwise_176 p1 p2 K69 Q x4 x5 x6 x9 h) : gw_G l vM ad cX6_otherwise RX6 10 (some .int) 6 135 Q X h 176 [some (.ref (ad 0)), some (.int p1), some (.int p2), none, some (.int x4), some (.int x5), some (.int x6), none, none, some (.int x9)] [] := by
  unfold wk_X6_otherwise_176 at hw
  refine gw_iload dX6_otherwise_176 rfl ?_
  refine gw_forget (ls' := [some (.ref (ad 0)), some (.int p1), some (.int p2), none, some (.int x4), none, some (.int x6), none, none, some (.int x9)]) (gw_sub.s (gw_sub.s (gw_sub.s (gw_sub.n (gw_sub.s (gw_sub.n (gw_sub.s (gw_sub.n (gw_sub.n (gw_sub.s gw_sub.z)))))))))) ?_
  exact tk_X6_otherwise_178  hK69 x4 x6 x9 x5 h hw
def wk_X6_otherwise_110 (p1 : Int32) (p2 : Int32) (K69 : Int32 → Int32 → Int32 → gw_H → Prop) (Q : Int32 → gw_H → Prop) : Int32 → Int32 → Int32 → Int32 → Int32 → gw_H → Prop :=
  fun x4 x5 x6 x7 s0 h => (((h 2 2) ≤ s0 → (wk_X6_otherwise_195 p1 p2 K69 Q x4 x5 x6 h)) ∧ (¬ (h 2 2) ≤ s0 → (wp_X6_at h x7 (3 : Int32) (fun r_11 h_10 => ((¬ s0 = r_11 → (wp_X6_gets h_10 x7 s0 (fun _ h_13 => (wp_X6_goesFor h_13 p1 (fun _ h_14 => (wp_X6_isAllTold h_14  (fun r_16 h_15 => (wp_X6_ends h_15  (fun _ h_17 => ((r_16 = 0 → (wk_X6_otherwise_176 p1 p2 K69 Q x4 x5 x6 r_16 h_17)) ∧ (¬ r_16 = 0 → ((¬ x4 = 0 → (wk_X6_otherwise_176 p1 p2 K69 Q x4 x5 x6 r_16 h_17)) ∧ (x4 = 0 → (wk_X6_otherwise_178 p1 p2 K69 Q x4 x6 r_16 x6 h_17)))))))))))))) ∧ (s0 = r_11 → (wk_X6_otherwise_195 p1 p2 K69 Q x4 x5 x6 h_10)))))))
set_option maxRecDepth 100000 in
set_option maxHeartbeats 4000000 in
theorem tk_X6_otherwise_110 {l : Launch} {ad : Nat → Nat} {X : gw_X} {p1 : Int32} {p2 : Int32} {K69 : Int32 → Int32 → Int32 → gw_H → Prop} {Q : Int32 → gw_H → Prop}  (hK69 : ∀ (y4 : Int32) (y5 : Int32) (y6 : Int32) (h : gw_H), K69 y4 y5 y6 h → gw_G l vM ad cX6_otherwise RX6 10 (some .int) 6 135 Q X h 69 [some (.ref (ad 0)), some (.int p1), some (.int p2), none, some (.int y4), some (.int y5), some (.int y6), none, none, none] []) (x4 : Int32) (x5 : Int32) (x6 : Int32) (x7 : Int32) (s0 : Int32) (h : gw_H) (hw : wk_X6_otherwise_110 p1 p2 K69 Q x4 x5 x6 x7 s0 h) : gw_G l vM ad cX6_otherwise RX6 10 (some .int) 6 135 Q X h 110 [some (.ref (ad 0)), some (.int p1), some (.int p2), none, some (.int x4), some (.int x5), some (.int x6), some (.int x7), none, none] [.int s0] := by
  unfold wk_X6_otherwise_110 at hw
  refine gw_istore (ls' := [some (.ref (ad 0)), some (.int p1), some (.int p2), none, some (.int x4), some (.int x5), some (.int x6), some (.int x7), some (.int s0), none]) dX6_otherwise_110 (Nat.le_of_ble_eq_true rfl) rfl ?_
  refine gw_iload dX6_otherwise_112 rfl ?_
  refine gw_aload_n dX6_otherwise_114 rfl rfl ?_
  refine gw_getf (k := 1) (v := .ref (ad 2)) oX6 clX6 inUX6 (Nat.le_of_ble_eq_true rfl) rfl lfX6_13 rfl dX6_otherwise_115 ?_
  refine gw_iconst dX6_otherwise_118 ic_2 ?_
  refine gw_iald am_2 in_2_73 cl_2 dX6_otherwise_119 ?_
  refine gw_icmp_ge (tgt := 195) dX6_otherwise_120 (by decide) (fun c_9 => ?_) (fun c_9 => ?_)
  · have hw := hw.1 c_9
    refine gw_forget (ls' := [some (.ref (ad 0)), some (.int p1), some (.int p2), none, some (.int x4), some (.int x5), some (.int x6), none, none, none]) (gw_sub.s (gw_sub.s (gw_sub.s (gw_sub.n (gw_sub.s (gw_sub.s (gw_sub.s (gw_sub.n (gw_sub.n (gw_sub.n gw_sub.z)))))))))) ?_
    exact tk_X6_otherwise_195  hK69 x4 x5 x6 h hw
  · have hw := hw.2 c_9
    refine gw_iload dX6_otherwise_123 rfl ?_
    refine gw_aload_n dX6_otherwise_125 rfl rfl ?_
    refine gw_iload dX6_otherwise_126 rfl ?_
    refine gw_iconst dX6_otherwise_128 ic_3 ?_
    refine gw_callVi (As := [.int x7, .int (3 : Int32)]) (rest := [.int s0]) rfl (gc_X6_at  hw) mX6_at lmX6_61 oX6 clX6 rfl rfl ⟨Nat.le_of_ble_eq_true rfl, Nat.le_of_ble_eq_true rfl⟩ (Nat.le_of_ble_eq_true rfl) dX6_otherwise_129 (fun r_11 h_10 hw => ?_)
    refine gw_icmp_ne (tgt := 138) dX6_otherwise_132 (by decide) (fun c_12 => ?_) (fun c_12 => ?_)
    · have hw := hw.1 c_12
      refine gw_aload_n dX6_otherwise_138 rfl rfl ?_
      refine gw_iload dX6_otherwise_139 rfl ?_
      refine gw_iload dX6_otherwise_141 rfl ?_
      refine gw_callVv (As := [.int x7, .int s0]) (rest := []) rfl (gc_X6_gets  hw) mX6_gets lmX6_81 oX6 clX6 rfl rfl ⟨Nat.le_of_ble_eq_true rfl, Nat.le_of_ble_eq_true rfl⟩ (Nat.le_of_ble_eq_true rfl) dX6_otherwise_143 (fun h_13 hw => ?_)
      refine gw_aload_n dX6_otherwise_146 rfl rfl ?_
      refine gw_iload_n dX6_otherwise_147 rfl rfl ?_
      refine gw_callVv (As := [.int p1]) (rest := []) rfl (gc_X6_goesFor  hw) mX6_goesFor lmX6_103 oX6 clX6 rfl rfl ⟨Nat.le_of_ble_eq_true rfl, Nat.le_of_ble_eq_true rfl⟩ (Nat.le_of_ble_eq_true rfl) dX6_otherwise_148 (fun h_14 hw => ?_)
      refine gw_aload_n dX6_otherwise_151 rfl rfl ?_
      refine gw_callVi (As := []) (rest := []) rfl (gc_X6_isAllTold  hw) mX6_isAllTold lmX6_186 oX6 clX6 rfl rfl ⟨Nat.le_of_ble_eq_true rfl, Nat.le_of_ble_eq_true rfl⟩ (Nat.le_of_ble_eq_true rfl) dX6_otherwise_152 (fun r_16 h_15 hw => ?_)
      refine gw_istore (ls' := [some (.ref (ad 0)), some (.int p1), some (.int p2), none, some (.int x4), some (.int x5), some (.int x6), some (.int x7), some (.int s0), some (.int r_16)]) dX6_otherwise_155 (Nat.le_of_ble_eq_true rfl) rfl ?_
      refine gw_aload_n dX6_otherwise_157 rfl rfl ?_
      refine gw_callVv (As := []) (rest := []) rfl (gc_X6_ends  hw) mX6_ends lmX6_109 oX6 clX6 rfl rfl ⟨Nat.le_of_ble_eq_true rfl, Nat.le_of_ble_eq_true rfl⟩ (Nat.le_of_ble_eq_true rfl) dX6_otherwise_158 (fun h_17 hw => ?_)
      refine gw_iload dX6_otherwise_161 rfl ?_
      refine gw_if_eq (tgt := 176) dX6_otherwise_163 (by decide) (fun c_18 => ?_) (fun c_18 => ?_)
      · have hw := hw.1 c_18
        refine gw_forget (ls' := [some (.ref (ad 0)), some (.int p1), some (.int p2), none, some (.int x4), some (.int x5), some (.int x6), none, none, some (.int r_16)]) (gw_sub.s (gw_sub.s (gw_sub.s (gw_sub.n (gw_sub.s (gw_sub.s (gw_sub.s (gw_sub.n (gw_sub.n (gw_sub.s gw_sub.z)))))))))) ?_
        exact tk_X6_otherwise_176  hK69 x4 x5 x6 r_16 h_17 hw
      · have hw := hw.2 c_18
        refine gw_iload dX6_otherwise_166 rfl ?_
        refine gw_if_ne (tgt := 176) dX6_otherwise_168 (by decide) (fun c_20 => ?_) (fun c_20 => ?_)
        · have hw := hw.1 c_20
          refine gw_forget (ls' := [some (.ref (ad 0)), some (.int p1), some (.int p2), none, some (.int x4), some (.int x5), some (.int x6), none, none, some (.int r_16)]) (gw_sub.s (gw_sub.s (gw_sub.s (gw_sub.n (gw_sub.s (gw_sub.s (gw_sub.s (gw_sub.n (gw_sub.n (gw_sub.s gw_sub.z)))))))))) ?_
          exact tk_X6_otherwise_176  hK69 x4 x5 x6 r_16 h_17 hw
        · have hw := hw.2 c_20
          refine gw_iload dX6_otherwise_171 rfl ?_
          refine gw_goto (tgt := 178) dX6_otherwise_173 (by decide) ?_
          refine gw_forget (ls' := [some (.ref (ad 0)), some (.int p1), some (.int p2), none, some (.int x4), none, some (.int x6), none, none, some (.int r_16)]) (gw_sub.s (gw_sub.s (gw_sub.s (gw_sub.n (gw_sub.s (gw_sub.n (gw_sub.s (gw_sub.n (gw_sub.n (gw_sub.s gw_sub.z)))))))))) ?_
          exact tk_X6_otherwise_178  hK69 x4 x6 r_16 x6 h_17 hw
    · have hw := hw.2 c_12
      refine gw_goto (tgt := 195) dX6_otherwise_135 (by decide) ?_
      refine gw_forget (ls' := [some (.ref (ad 0)), some (.int p1), some (.int p2), none, some (.int x4), some (.int x5), some (.int x6), none, none, none]) (gw_sub.s (gw_sub.s (gw_sub.s (gw_sub.n (gw_sub.s (gw_sub.s (gw_sub.s (gw_sub.n (gw_sub.n (gw_sub.n gw_sub.z)))))))))) ?_
      exact tk_X6_otherwise_195  hK69 x4 x5 x6 h_10 hw
def wl_X6_otherwise_69 (p1 : Int32) (p2 : Int32)  (Q : Int32 → gw_H → Prop) : Nat → Int32 → Int32 → Int32 → gw_H → Prop
  | 0 => fun _ _ _ _ => False
  | n + 1 => fun x4 x5 x6 h => ((((10 : Int32) * (h 2 3)) ≤ x6 → ((¬ p2 = 0 → Q x5 h) ∧ (p2 = 0 → Q x4 h))) ∧ (¬ ((10 : Int32) * (h 2 3)) ≤ x6 → ((¬ (x6 - x6 / (10 : Int32) * (10 : Int32)) = (9 : Int32) → (wk_X6_otherwise_110 p1 p2 (wl_X6_otherwise_69 p1 p2  Q n) Q x4 x5 x6 (x6 / (10 : Int32)) (x6 - x6 / (10 : Int32) * (10 : Int32)) h)) ∧ ((x6 - x6 / (10 : Int32) * (10 : Int32)) = (9 : Int32) → (wk_X6_otherwise_110 p1 p2 (wl_X6_otherwise_69 p1 p2  Q n) Q x4 x5 x6 (x6 / (10 : Int32)) (-9 : Int32) h)))))
set_option maxRecDepth 100000 in
set_option maxHeartbeats 4000000 in
theorem tl_X6_otherwise_69 {l : Launch} {ad : Nat → Nat} {X : gw_X} {p1 : Int32} {p2 : Int32}  {Q : Int32 → gw_H → Prop}   : ∀ (n : Nat) (x4 : Int32) (x5 : Int32) (x6 : Int32) (h : gw_H), wl_X6_otherwise_69 p1 p2  Q n x4 x5 x6 h → gw_G l vM ad cX6_otherwise RX6 10 (some .int) 6 135 Q X h 69 [some (.ref (ad 0)), some (.int p1), some (.int p2), none, some (.int x4), some (.int x5), some (.int x6), none, none, none] [] := by
  intro n
  induction n with
  | zero => intro x4 x5 x6 h hw; exact hw.elim
  | succ n ih =>
    intro x4 x5 x6 h hw
    unfold wl_X6_otherwise_69 at hw
    refine gw_iload dX6_otherwise_69 rfl ?_
    refine gw_bipush dX6_otherwise_71 bp_10 ?_
    refine gw_aload_n dX6_otherwise_73 rfl rfl ?_
    refine gw_getf (k := 1) (v := .ref (ad 2)) oX6 clX6 inUX6 (Nat.le_of_ble_eq_true rfl) rfl lfX6_13 rfl dX6_otherwise_74 ?_
    refine gw_iconst dX6_otherwise_77 ic_3 ?_
    refine gw_iald am_2 in_3_73 cl_3 dX6_otherwise_78 ?_
    refine gw_imul dX6_otherwise_79 ?_
    refine gw_icmp_ge (tgt := 201) dX6_otherwise_80 (by decide) (fun c_6 => ?_) (fun c_6 => ?_)
    · have hw := hw.1 c_6
      refine gw_iload_n dX6_otherwise_201 rfl rfl ?_
      refine gw_if_ne (tgt := 210) dX6_otherwise_202 (by decide) (fun c_7 => ?_) (fun c_7 => ?_)
      · have hw := hw.1 c_7
        refine gw_iload dX6_otherwise_210 rfl ?_
        exact gw_ireturn (ty := .int) hw rfl rfl dX6_otherwise_212
      · have hw := hw.2 c_7
        refine gw_iload dX6_otherwise_205 rfl ?_
        refine gw_goto (tgt := 212) dX6_otherwise_207 (by decide) ?_
        exact gw_ireturn (ty := .int) hw rfl rfl dX6_otherwise_212
    · have hw := hw.2 c_6
      refine gw_iload dX6_otherwise_83 rfl ?_
      refine gw_bipush dX6_otherwise_85 bp_10 ?_
      refine gw_idiv dX6_otherwise_87 (by decide) ?_
      refine gw_istore (ls' := [some (.ref (ad 0)), some (.int p1), some (.int p2), none, some (.int x4), some (.int x5), some (.int x6), some (.int (x6 / (10 : Int32))), none, none]) dX6_otherwise_88 (Nat.le_of_ble_eq_true rfl) rfl ?_
      refine gw_iload dX6_otherwise_90 rfl ?_
      refine gw_bipush dX6_otherwise_92 bp_10 ?_
      refine gw_irem dX6_otherwise_94 (by decide) ?_
      refine gw_bipush dX6_otherwise_95 bp_9 ?_
      refine gw_icmp_ne (tgt := 105) dX6_otherwise_97 (by decide) (fun c_8 => ?_) (fun c_8 => ?_)
      · have hw := hw.1 c_8
        refine gw_iload dX6_otherwise_105 rfl ?_
        refine gw_bipush dX6_otherwise_107 bp_10 ?_
        refine gw_irem dX6_otherwise_109 (by decide) ?_
        exact tk_X6_otherwise_110   ih x4 x5 x6 (x6 / (10 : Int32)) (x6 - x6 / (10 : Int32) * (10 : Int32)) h hw
      · have hw := hw.2 c_8
        refine gw_bipush dX6_otherwise_100 bp_m9 ?_
        refine gw_goto (tgt := 110) dX6_otherwise_102 (by decide) ?_
        exact tk_X6_otherwise_110   ih x4 x5 x6 (x6 / (10 : Int32)) (-9 : Int32) h hw
def wk_X6_otherwise_45 (p1 : Int32) (p2 : Int32)  (Q : Int32 → gw_H → Prop) : Int32 → gw_H → Prop :=
  fun x3 h => ((x3 = 0 → (wp_X6_begins h  (fun _ h_5 => (∃ n_21 : Nat, wl_X6_otherwise_69 p1 p2  Q n_21 (0 : Int32) (-9 : Int32) (0 : Int32) h_5)))) ∧ (¬ x3 = 0 → (wp_X6_refuse h x3 (fun r_23 h_22 => Q r_23 h_22))))
set_option maxRecDepth 100000 in
set_option maxHeartbeats 4000000 in
theorem tk_X6_otherwise_45 {l : Launch} {ad : Nat → Nat} {X : gw_X} {p1 : Int32} {p2 : Int32}  {Q : Int32 → gw_H → Prop}   (x3 : Int32) (h : gw_H) (hw : wk_X6_otherwise_45 p1 p2  Q x3 h) : gw_G l vM ad cX6_otherwise RX6 10 (some .int) 6 135 Q X h 45 [some (.ref (ad 0)), some (.int p1), some (.int p2), some (.int x3), none, none, none, none, none, none] [] := by
  unfold wk_X6_otherwise_45 at hw
  refine gw_iload_n dX6_otherwise_45 rfl rfl ?_
  refine gw_if_eq (tgt := 55) dX6_otherwise_46 (by decide) (fun c_4 => ?_) (fun c_4 => ?_)
  · have hw := hw.1 c_4
    refine gw_aload_n dX6_otherwise_55 rfl rfl ?_
    refine gw_callVv (As := []) (rest := []) rfl (gc_X6_begins  hw) mX6_begins lmX6_96 oX6 clX6 rfl rfl ⟨Nat.le_of_ble_eq_true rfl, Nat.le_of_ble_eq_true rfl⟩ (Nat.le_of_ble_eq_true rfl) dX6_otherwise_56 (fun h_5 hw => ?_)
    refine gw_iconst dX6_otherwise_59 ic_0 ?_
    refine gw_istore (ls' := [some (.ref (ad 0)), some (.int p1), some (.int p2), some (.int x3), some (.int (0 : Int32)), none, none, none, none, none]) dX6_otherwise_60 (Nat.le_of_ble_eq_true rfl) rfl ?_
    refine gw_bipush dX6_otherwise_62 bp_m9 ?_
    refine gw_istore (ls' := [some (.ref (ad 0)), some (.int p1), some (.int p2), some (.int x3), some (.int (0 : Int32)), some (.int (-9 : Int32)), none, none, none, none]) dX6_otherwise_64 (Nat.le_of_ble_eq_true rfl) rfl ?_
    refine gw_iconst dX6_otherwise_66 ic_0 ?_
    refine gw_istore (ls' := [some (.ref (ad 0)), some (.int p1), some (.int p2), some (.int x3), some (.int (0 : Int32)), some (.int (-9 : Int32)), some (.int (0 : Int32)), none, none, none]) dX6_otherwise_67 (Nat.le_of_ble_eq_true rfl) rfl ?_
    refine gw_forget (ls' := [some (.ref (ad 0)), some (.int p1), some (.int p2), none, some (.int (0 : Int32)), some (.int (-9 : Int32)), some (.int (0 : Int32)), none, none, none]) (gw_sub.s (gw_sub.s (gw_sub.s (gw_sub.n (gw_sub.s (gw_sub.s (gw_sub.s (gw_sub.n (gw_sub.n (gw_sub.n gw_sub.z)))))))))) ?_
    obtain ⟨n_21, hw⟩ := hw
    exact tl_X6_otherwise_69   n_21 (0 : Int32) (-9 : Int32) (0 : Int32) h_5 hw
  · have hw := hw.2 c_4
    refine gw_aload_n dX6_otherwise_49 rfl rfl ?_
    refine gw_iload_n dX6_otherwise_50 rfl rfl ?_
    refine gw_callVi (As := [.int x3]) (rest := []) rfl (gc_X6_refuse  hw) mX6_refuse lmX6_120 oX6 clX6 rfl rfl ⟨Nat.le_of_ble_eq_true rfl, Nat.le_of_ble_eq_true rfl⟩ (Nat.le_of_ble_eq_true rfl) dX6_otherwise_51 (fun r_23 h_22 hw => ?_)
    exact gw_ireturn (ty := .int) hw rfl rfl dX6_otherwise_54
def wk_X6_otherwise_44 (p1 : Int32) (p2 : Int32)  (Q : Int32 → gw_H → Prop) : Int32 → gw_H → Prop :=
  fun s0 h => (wk_X6_otherwise_45 p1 p2  Q s0 h)
set_option maxRecDepth 100000 in
set_option maxHeartbeats 4000000 in
theorem tk_X6_otherwise_44 {l : Launch} {ad : Nat → Nat} {X : gw_X} {p1 : Int32} {p2 : Int32}  {Q : Int32 → gw_H → Prop}   (s0 : Int32) (h : gw_H) (hw : wk_X6_otherwise_44 p1 p2  Q s0 h) : gw_G l vM ad cX6_otherwise RX6 10 (some .int) 6 135 Q X h 44 [some (.ref (ad 0)), some (.int p1), some (.int p2), none, none, none, none, none, none, none] [.int s0] := by
  unfold wk_X6_otherwise_44 at hw
  refine gw_istore_n (ls' := [some (.ref (ad 0)), some (.int p1), some (.int p2), some (.int s0), none, none, none, none, none, none]) dX6_otherwise_44 rfl (Nat.le_of_ble_eq_true rfl) rfl ?_
  exact tk_X6_otherwise_45   s0 h hw
def wp_X6_otherwise (h : gw_H) (p1 : Int32) (p2 : Int32) (Q : Int32 → gw_H → Prop) : Prop :=
  (wp_X6_within h p1 (0 : Int32) (60 : Int32) (fun r_2 h_1 => ((¬ r_2 = 0 → (wk_X6_otherwise_45 p1 p2  Q r_2 h_1)) ∧ (r_2 = 0 → (wp_X6_isIn h_1 p2 (2 : Int32) (fun r_25 h_24 => ((¬ r_25 = 0 → (((h_24 0 16) = (h_24 2 3) → (wk_X6_otherwise_44 p1 p2  Q (0 : Int32) h_24)) ∧ (¬ (h_24 0 16) = (h_24 2 3) → (wk_X6_otherwise_44 p1 p2  Q (-3 : Int32) h_24)))) ∧ (r_25 = 0 → (wk_X6_otherwise_44 p1 p2  Q (-2 : Int32) h_24)))))))))
set_option maxRecDepth 100000 in
set_option maxHeartbeats 4000000 in
theorem gc_X6_otherwise {l : Launch} {ad : Nat → Nat} {h : gw_H} {p1 : Int32} {p2 : Int32} {Q : Int32 → gw_H → Prop}  (hw : wp_X6_otherwise h p1 p2 Q) : gw_C l yX6_otherwise cX6_otherwise 10 (some .int) 6 135 vM ad [.ref (ad 0), .int p1, .int p2] h Q := by
  refine gw_entry (own := RX6) [some (.ref (ad 0)), some (.int p1), some (.int p2), none, none, none, none, none, none, none] pl_X6 rfl rfl (Nat.le_of_ble_eq_true rfl) rfl (fun X => ?_)
  unfold wp_X6_otherwise at hw
  refine gw_iload_n dX6_otherwise_0 rfl rfl ?_
  refine gw_iconst dX6_otherwise_1 ic_0 ?_
  refine gw_bipush dX6_otherwise_2 bp_60 ?_
  refine gw_callSi (As := [.int p1, .int (0 : Int32), .int (60 : Int32)]) (rest := []) rfl (gc_X6_within  hw) mX6_within lmX6_112 rfl rfl ⟨Nat.le_of_ble_eq_true rfl, Nat.le_of_ble_eq_true rfl⟩ (Nat.le_of_ble_eq_true rfl) dX6_otherwise_4 (fun r_2 h_1 hw => ?_)
  refine gw_istore_n (ls' := [some (.ref (ad 0)), some (.int p1), some (.int p2), some (.int r_2), none, none, none, none, none, none]) dX6_otherwise_7 rfl (Nat.le_of_ble_eq_true rfl) rfl ?_
  refine gw_iload_n dX6_otherwise_8 rfl rfl ?_
  refine gw_if_ne (tgt := 45) dX6_otherwise_9 (by decide) (fun c_3 => ?_) (fun c_3 => ?_)
  · have hw := hw.1 c_3
    exact tk_X6_otherwise_45   r_2 h_1 hw
  · have hw := hw.2 c_3
    refine gw_iload_n dX6_otherwise_12 rfl rfl ?_
    refine gw_iconst dX6_otherwise_13 ic_2 ?_
    refine gw_callSi (As := [.int p2, .int (2 : Int32)]) (rest := []) rfl (gc_X6_isIn  hw) mX6_isIn lmX6_53 rfl rfl ⟨Nat.le_of_ble_eq_true rfl, Nat.le_of_ble_eq_true rfl⟩ (Nat.le_of_ble_eq_true rfl) dX6_otherwise_14 (fun r_25 h_24 hw => ?_)
    refine gw_if_ne (tgt := 25) dX6_otherwise_17 (by decide) (fun c_26 => ?_) (fun c_26 => ?_)
    · have hw := hw.1 c_26
      refine gw_aload_n dX6_otherwise_25 rfl rfl ?_
      refine gw_getf (k := 16) (v := .int (h_24 0 16)) oX6 clX6 inUX6 (Nat.le_of_ble_eq_true rfl) rfl lfX6_180 rfl dX6_otherwise_26 ?_
      refine gw_aload_n dX6_otherwise_29 rfl rfl ?_
      refine gw_getf (k := 1) (v := .ref (ad 2)) oX6 clX6 inUX6 (Nat.le_of_ble_eq_true rfl) rfl lfX6_13 rfl dX6_otherwise_30 ?_
      refine gw_iconst dX6_otherwise_33 ic_3 ?_
      refine gw_iald am_2 in_3_73 cl_3 dX6_otherwise_34 ?_
      refine gw_icmp_eq (tgt := 43) dX6_otherwise_35 (by decide) (fun c_27 => ?_) (fun c_27 => ?_)
      · have hw := hw.1 c_27
        refine gw_iconst dX6_otherwise_43 ic_0 ?_
        refine gw_forget (ls' := [some (.ref (ad 0)), some (.int p1), some (.int p2), none, none, none, none, none, none, none]) (gw_sub.s (gw_sub.s (gw_sub.s (gw_sub.n (gw_sub.n (gw_sub.n (gw_sub.n (gw_sub.n (gw_sub.n (gw_sub.n gw_sub.z)))))))))) ?_
        exact tk_X6_otherwise_44   (0 : Int32) h_24 hw
      · have hw := hw.2 c_27
        refine gw_bipush dX6_otherwise_38 bp_m3 ?_
        refine gw_goto (tgt := 44) dX6_otherwise_40 (by decide) ?_
        refine gw_forget (ls' := [some (.ref (ad 0)), some (.int p1), some (.int p2), none, none, none, none, none, none, none]) (gw_sub.s (gw_sub.s (gw_sub.s (gw_sub.n (gw_sub.n (gw_sub.n (gw_sub.n (gw_sub.n (gw_sub.n (gw_sub.n gw_sub.z)))))))))) ?_
        exact tk_X6_otherwise_44   (-3 : Int32) h_24 hw
    · have hw := hw.2 c_26
      refine gw_bipush dX6_otherwise_20 bp_m2 ?_
      refine gw_goto (tgt := 44) dX6_otherwise_22 (by decide) ?_
      refine gw_forget (ls' := [some (.ref (ad 0)), some (.int p1), some (.int p2), none, none, none, none, none, none, none]) (gw_sub.s (gw_sub.s (gw_sub.s (gw_sub.n (gw_sub.n (gw_sub.n (gw_sub.n (gw_sub.n (gw_sub.n (gw_sub.n gw_sub.z)))))))))) ?_
      exact tk_X6_otherwise_44   (-2 : Int32) h_24 hw
def wk_X6_remedy_45 (p1 : Int32) (p2 : Int32)  (Q : Int32 → gw_H → Prop) : Int32 → gw_H → Prop :=
  fun s0 h => ((s0 = 0 → (wp_X6_mends h p1 p2 (fun _ h_9 => (wp_X6_at h_9 p1 (4 : Int32) (fun r_11 h_10 => Q r_11 h_10))))) ∧ (¬ s0 = 0 → (wp_X6_refuse h s0 (fun r_13 h_12 => Q r_13 h_12))))
set_option maxRecDepth 100000 in
set_option maxHeartbeats 4000000 in
theorem tk_X6_remedy_45 {l : Launch} {ad : Nat → Nat} {X : gw_X} {p1 : Int32} {p2 : Int32}  {Q : Int32 → gw_H → Prop}   (s0 : Int32) (h : gw_H) (hw : wk_X6_remedy_45 p1 p2  Q s0 h) : gw_G l vM ad cX6_remedy RX6 4 (some .int) 4 90 Q X h 45 [some (.ref (ad 0)), some (.int p1), some (.int p2), none] [.int s0] := by
  unfold wk_X6_remedy_45 at hw
  refine gw_istore_n (ls' := [some (.ref (ad 0)), some (.int p1), some (.int p2), some (.int s0)]) dX6_remedy_45 rfl (Nat.le_of_ble_eq_true rfl) rfl ?_
  refine gw_iload_n dX6_remedy_46 rfl rfl ?_
  refine gw_if_eq (tgt := 56) dX6_remedy_47 (by decide) (fun c_8 => ?_) (fun c_8 => ?_)
  · have hw := hw.1 c_8
    refine gw_aload_n dX6_remedy_56 rfl rfl ?_
    refine gw_iload_n dX6_remedy_57 rfl rfl ?_
    refine gw_iload_n dX6_remedy_58 rfl rfl ?_
    refine gw_callVv (As := [.int p1, .int p2]) (rest := []) rfl (gc_X6_mends  hw) mX6_mends lmX6_160 oX6 clX6 rfl rfl ⟨Nat.le_of_ble_eq_true rfl, Nat.le_of_ble_eq_true rfl⟩ (Nat.le_of_ble_eq_true rfl) dX6_remedy_59 (fun h_9 hw => ?_)
    refine gw_aload_n dX6_remedy_62 rfl rfl ?_
    refine gw_iload_n dX6_remedy_63 rfl rfl ?_
    refine gw_iconst dX6_remedy_64 ic_4 ?_
    refine gw_callVi (As := [.int p1, .int (4 : Int32)]) (rest := []) rfl (gc_X6_at  hw) mX6_at lmX6_61 oX6 clX6 rfl rfl ⟨Nat.le_of_ble_eq_true rfl, Nat.le_of_ble_eq_true rfl⟩ (Nat.le_of_ble_eq_true rfl) dX6_remedy_65 (fun r_11 h_10 hw => ?_)
    exact gw_ireturn (ty := .int) hw rfl rfl dX6_remedy_68
  · have hw := hw.2 c_8
    refine gw_aload_n dX6_remedy_50 rfl rfl ?_
    refine gw_iload_n dX6_remedy_51 rfl rfl ?_
    refine gw_callVi (As := [.int s0]) (rest := []) rfl (gc_X6_refuse  hw) mX6_refuse lmX6_120 oX6 clX6 rfl rfl ⟨Nat.le_of_ble_eq_true rfl, Nat.le_of_ble_eq_true rfl⟩ (Nat.le_of_ble_eq_true rfl) dX6_remedy_52 (fun r_13 h_12 hw => ?_)
    exact gw_ireturn (ty := .int) hw rfl rfl dX6_remedy_55
def wk_X6_remedy_44 (p1 : Int32) (p2 : Int32)  (Q : Int32 → gw_H → Prop) : gw_H → Prop :=
  fun h => (wk_X6_remedy_45 p1 p2  Q (0 : Int32) h)
set_option maxRecDepth 100000 in
set_option maxHeartbeats 4000000 in
theorem tk_X6_remedy_44 {l : Launch} {ad : Nat → Nat} {X : gw_X} {p1 : Int32} {p2 : Int32}  {Q : Int32 → gw_H → Prop}    (h : gw_H) (hw : wk_X6_remedy_44 p1 p2  Q h) : gw_G l vM ad cX6_remedy RX6 4 (some .int) 4 90 Q X h 44 [some (.ref (ad 0)), some (.int p1), some (.int p2), none] [] := by
  unfold wk_X6_remedy_44 at hw
  refine gw_iconst dX6_remedy_44 ic_0 ?_
  exact tk_X6_remedy_45   (0 : Int32) h hw
def wp_X6_remedy (h : gw_H) (p1 : Int32) (p2 : Int32) (Q : Int32 → gw_H → Prop) : Prop :=
  (wp_X6_isHead h p1 (fun r_2 h_1 => ((¬ r_2 = 0 → (wp_X6_isIn h_1 p2 (3 : Int32) (fun r_5 h_4 => ((¬ r_5 = 0 → (((2 : Int32) ≤ p2 → (wk_X6_remedy_44 p1 p2  Q h_4)) ∧ (¬ (2 : Int32) ≤ p2 → (wp_X6_at h_4 p1 (3 : Int32) (fun r_15 h_14 => ((0 ≤ r_15 → (wk_X6_remedy_44 p1 p2  Q h_14)) ∧ (¬ 0 ≤ r_15 → (wk_X6_remedy_45 p1 p2  Q (-3 : Int32) h_14)))))))) ∧ (r_5 = 0 → (wk_X6_remedy_45 p1 p2  Q (-2 : Int32) h_4)))))) ∧ (r_2 = 0 → (wk_X6_remedy_45 p1 p2  Q (-1 : Int32) h_1)))))
set_option maxRecDepth 100000 in
set_option maxHeartbeats 4000000 in
theorem gc_X6_remedy {l : Launch} {ad : Nat → Nat} {h : gw_H} {p1 : Int32} {p2 : Int32} {Q : Int32 → gw_H → Prop}  (hw : wp_X6_remedy h p1 p2 Q) : gw_C l yX6_remedy cX6_remedy 4 (some .int) 4 90 vM ad [.ref (ad 0), .int p1, .int p2] h Q := by
  refine gw_entry (own := RX6) [some (.ref (ad 0)), some (.int p1), some (.int p2), none] pl_X6 rfl rfl (Nat.le_of_ble_eq_true rfl) rfl (fun X => ?_)
  unfold wp_X6_remedy at hw
  refine gw_aload_n dX6_remedy_0 rfl rfl ?_
  refine gw_iload_n dX6_remedy_1 rfl rfl ?_
  refine gw_callVi (As := [.int p1]) (rest := []) rfl (gc_X6_isHead  hw) mX6_isHead lmX6_144 oX6 clX6 rfl rfl ⟨Nat.le_of_ble_eq_true rfl, Nat.le_of_ble_eq_true rfl⟩ (Nat.le_of_ble_eq_true rfl) dX6_remedy_2 (fun r_2 h_1 hw => ?_)
  refine gw_if_ne (tgt := 12) dX6_remedy_5 (by decide) (fun c_3 => ?_) (fun c_3 => ?_)
  · have hw := hw.1 c_3
    refine gw_iload_n dX6_remedy_12 rfl rfl ?_
    refine gw_iconst dX6_remedy_13 ic_3 ?_
    refine gw_callSi (As := [.int p2, .int (3 : Int32)]) (rest := []) rfl (gc_X6_isIn  hw) mX6_isIn lmX6_53 rfl rfl ⟨Nat.le_of_ble_eq_true rfl, Nat.le_of_ble_eq_true rfl⟩ (Nat.le_of_ble_eq_true rfl) dX6_remedy_14 (fun r_5 h_4 hw => ?_)
    refine gw_if_ne (tgt := 25) dX6_remedy_17 (by decide) (fun c_6 => ?_) (fun c_6 => ?_)
    · have hw := hw.1 c_6
      refine gw_iload_n dX6_remedy_25 rfl rfl ?_
      refine gw_iconst dX6_remedy_26 ic_2 ?_
      refine gw_icmp_ge (tgt := 44) dX6_remedy_27 (by decide) (fun c_7 => ?_) (fun c_7 => ?_)
      · have hw := hw.1 c_7
        exact tk_X6_remedy_44   h_4 hw
      · have hw := hw.2 c_7
        refine gw_aload_n dX6_remedy_30 rfl rfl ?_
        refine gw_iload_n dX6_remedy_31 rfl rfl ?_
        refine gw_iconst dX6_remedy_32 ic_3 ?_
        refine gw_callVi (As := [.int p1, .int (3 : Int32)]) (rest := []) rfl (gc_X6_at  hw) mX6_at lmX6_61 oX6 clX6 rfl rfl ⟨Nat.le_of_ble_eq_true rfl, Nat.le_of_ble_eq_true rfl⟩ (Nat.le_of_ble_eq_true rfl) dX6_remedy_33 (fun r_15 h_14 hw => ?_)
        refine gw_if_ge (tgt := 44) dX6_remedy_36 (by decide) (fun c_16 => ?_) (fun c_16 => ?_)
        · have hw := hw.1 c_16
          exact tk_X6_remedy_44   h_14 hw
        · have hw := hw.2 c_16
          refine gw_bipush dX6_remedy_39 bp_m3 ?_
          refine gw_goto (tgt := 45) dX6_remedy_41 (by decide) ?_
          exact tk_X6_remedy_45   (-3 : Int32) h_14 hw
    · have hw := hw.2 c_6
      refine gw_bipush dX6_remedy_20 bp_m2 ?_
      refine gw_goto (tgt := 45) dX6_remedy_22 (by decide) ?_
      exact tk_X6_remedy_45   (-2 : Int32) h_4 hw
  · have hw := hw.2 c_3
    refine gw_iconst dX6_remedy_8 ic_m1 ?_
    refine gw_goto (tgt := 45) dX6_remedy_9 (by decide) ?_
    exact tk_X6_remedy_45   (-1 : Int32) h_1 hw
def wk_X6_rid_114 (p1 : Int32) (p2 : Int32) (K66 : Int32 → Int32 → Int32 → gw_H → Prop) (Q : Int32 → gw_H → Prop) : Int32 → Int32 → Int32 → gw_H → Prop :=
  fun x4 x5 x6 h => (K66 x4 x5 (x6 + (1 : Int32)) h)
set_option maxRecDepth 100000 in
set_option maxHeartbeats 4000000 in
theorem tk_X6_rid_114 {l : Launch} {ad : Nat → Nat} {X : gw_X} {p1 : Int32} {p2 : Int32} {K66 : Int32 → Int32 → Int32 → gw_H → Prop} {Q : Int32 → gw_H → Prop}  (hK66 : ∀ (y4 : Int32) (y5 : Int32) (y6 : Int32) (h : gw_H), K66 y4 y5 y6 h → gw_G l vM ad cX6_rid RX6 8 (some .int) 6 136 Q X h 66 [some (.ref (ad 0)), some (.int p1), some (.int p2), none, some (.int y4), some (.int y5), some (.int y6), none] []) (x4 : Int32) (x5 : Int32) (x6 : Int32) (h : gw_H) (hw : wk_X6_rid_114 p1 p2 K66 Q x4 x5 x6 h) : gw_G l vM ad cX6_rid RX6 8 (some .int) 6 136 Q X h 114 [some (.ref (ad 0)), some (.int p1), some (.int p2), none, some (.int x4), some (.int x5), some (.int x6), none] [] := by
  unfold wk_X6_rid_114 at hw
  refine gw_iinc (ls' := [some (.ref (ad 0)), some (.int p1), some (.int p2), none, some (.int x4), some (.int x5), some (.int (x6 + (1 : Int32))), none]) dX6_rid_114 rfl (congrArg (fun z => x6 + z) ic_1) (Nat.le_of_ble_eq_true rfl) rfl ?_
  refine gw_goto (tgt := 66) dX6_rid_117 (by decide) ?_
  exact hK66 x4 x5 (x6 + (1 : Int32)) h hw
def wk_X6_rid_106 (p1 : Int32) (p2 : Int32) (K66 : Int32 → Int32 → Int32 → gw_H → Prop) (Q : Int32 → gw_H → Prop) : Int32 → Int32 → gw_H → Prop :=
  fun x6 x7 h => (wk_X6_rid_114 p1 p2 K66 Q x6 x7 x6 h)
set_option maxRecDepth 100000 in
set_option maxHeartbeats 4000000 in
theorem tk_X6_rid_106 {l : Launch} {ad : Nat → Nat} {X : gw_X} {p1 : Int32} {p2 : Int32} {K66 : Int32 → Int32 → Int32 → gw_H → Prop} {Q : Int32 → gw_H → Prop}  (hK66 : ∀ (y4 : Int32) (y5 : Int32) (y6 : Int32) (h : gw_H), K66 y4 y5 y6 h → gw_G l vM ad cX6_rid RX6 8 (some .int) 6 136 Q X h 66 [some (.ref (ad 0)), some (.int p1), some (.int p2), none, some (.int y4), some (.int y5), some (.int y6), none] []) (x6 : Int32) (x7 : Int32) (h : gw_H) (hw : wk_X6_rid_106 p1 p2 K66 Q x6 x7 h) : gw_G l vM ad cX6_rid RX6 8 (some .int) 6 136 Q X h 106 [some (.ref (ad 0)), some (.int p1), some (.int p2), none, none, none, some (.int x6), some (.int x7)] [] := by
  unfold wk_X6_rid_106 at hw
  refine gw_iload dX6_rid_106 rfl ?_
  refine gw_istore (ls' := [some (.ref (ad 0)), some (.int p1), some (.int p2), none, some (.int x6), none, some (.int x6), some (.int x7)]) dX6_rid_108 (Nat.le_of_ble_eq_true rfl) rfl ?_
  refine gw_iload dX6_rid_110 rfl ?_
  refine gw_istore (ls' := [some (.ref (ad 0)), some (.int p1), some (.int p2), none, some (.int x6), some (.int x7), some (.int x6), some (.int x7)]) dX6_rid_112 (Nat.le_of_ble_eq_true rfl) rfl ?_
  refine gw_forget (ls' := [some (.ref (ad 0)), some (.int p1), some (.int p2), none, some (.int x6), some (.int x7), some (.int x6), none]) (gw_sub.s (gw_sub.s (gw_sub.s (gw_sub.n (gw_sub.s (gw_sub.s (gw_sub.s (gw_sub.n gw_sub.z)))))))) ?_
  exact tk_X6_rid_114  hK66 x6 x7 x6 h hw
def wl_X6_rid_66 (p1 : Int32) (p2 : Int32)  (Q : Int32 → gw_H → Prop) : Nat → Int32 → Int32 → Int32 → gw_H → Prop
  | 0 => fun _ _ _ _ => False
  | n + 1 => fun x4 x5 x6 h => (((4 : Int32) ≤ x6 → ((¬ p2 = 0 → Q x5 h) ∧ (p2 = 0 → Q x4 h))) ∧ (¬ (4 : Int32) ≤ x6 → (wp_X6_mends h p1 x6 (fun _ h_14 => (wp_X6_ridOf h_14 p1 (fun r_16 h_15 => ((r_16 < 0 → (wk_X6_rid_114 p1 p2 (wl_X6_rid_66 p1 p2  Q n) Q x4 x5 x6 h_15)) ∧ (¬ r_16 < 0 → ((x5 < 0 → (wk_X6_rid_106 p1 p2 (wl_X6_rid_66 p1 p2  Q n) Q x6 r_16 h_15)) ∧ (¬ x5 < 0 → ((r_16 < x5 → (wk_X6_rid_106 p1 p2 (wl_X6_rid_66 p1 p2  Q n) Q x6 r_16 h_15)) ∧ (¬ r_16 < x5 → (wk_X6_rid_114 p1 p2 (wl_X6_rid_66 p1 p2  Q n) Q x4 x5 x6 h_15)))))))))))))
set_option maxRecDepth 100000 in
set_option maxHeartbeats 4000000 in
theorem tl_X6_rid_66 {l : Launch} {ad : Nat → Nat} {X : gw_X} {p1 : Int32} {p2 : Int32}  {Q : Int32 → gw_H → Prop}   : ∀ (n : Nat) (x4 : Int32) (x5 : Int32) (x6 : Int32) (h : gw_H), wl_X6_rid_66 p1 p2  Q n x4 x5 x6 h → gw_G l vM ad cX6_rid RX6 8 (some .int) 6 136 Q X h 66 [some (.ref (ad 0)), some (.int p1), some (.int p2), none, some (.int x4), some (.int x5), some (.int x6), none] [] := by
  intro n
  induction n with
  | zero => intro x4 x5 x6 h hw; exact hw.elim
  | succ n ih =>
    intro x4 x5 x6 h hw
    unfold wl_X6_rid_66 at hw
    refine gw_iload dX6_rid_66 rfl ?_
    refine gw_iconst dX6_rid_68 ic_4 ?_
    refine gw_icmp_ge (tgt := 120) dX6_rid_69 (by decide) (fun c_12 => ?_) (fun c_12 => ?_)
    · have hw := hw.1 c_12
      refine gw_iload_n dX6_rid_120 rfl rfl ?_
      refine gw_if_ne (tgt := 129) dX6_rid_121 (by decide) (fun c_13 => ?_) (fun c_13 => ?_)
      · have hw := hw.1 c_13
        refine gw_iload dX6_rid_129 rfl ?_
        exact gw_ireturn (ty := .int) hw rfl rfl dX6_rid_131
      · have hw := hw.2 c_13
        refine gw_iload dX6_rid_124 rfl ?_
        refine gw_goto (tgt := 131) dX6_rid_126 (by decide) ?_
        exact gw_ireturn (ty := .int) hw rfl rfl dX6_rid_131
    · have hw := hw.2 c_12
      refine gw_aload_n dX6_rid_72 rfl rfl ?_
      refine gw_iload_n dX6_rid_73 rfl rfl ?_
      refine gw_iload dX6_rid_74 rfl ?_
      refine gw_callVv (As := [.int p1, .int x6]) (rest := []) rfl (gc_X6_mends  hw) mX6_mends lmX6_160 oX6 clX6 rfl rfl ⟨Nat.le_of_ble_eq_true rfl, Nat.le_of_ble_eq_true rfl⟩ (Nat.le_of_ble_eq_true rfl) dX6_rid_76 (fun h_14 hw => ?_)
      refine gw_aload_n dX6_rid_79 rfl rfl ?_
      refine gw_iload_n dX6_rid_80 rfl rfl ?_
      refine gw_callVi (As := [.int p1]) (rest := []) rfl (gc_X6_ridOf  hw) mX6_ridOf lmX6_177 oX6 clX6 rfl rfl ⟨Nat.le_of_ble_eq_true rfl, Nat.le_of_ble_eq_true rfl⟩ (Nat.le_of_ble_eq_true rfl) dX6_rid_81 (fun r_16 h_15 hw => ?_)
      refine gw_istore (ls' := [some (.ref (ad 0)), some (.int p1), some (.int p2), none, some (.int x4), some (.int x5), some (.int x6), some (.int r_16)]) dX6_rid_84 (Nat.le_of_ble_eq_true rfl) rfl ?_
      refine gw_iload dX6_rid_86 rfl ?_
      refine gw_if_lt (tgt := 114) dX6_rid_88 (by decide) (fun c_17 => ?_) (fun c_17 => ?_)
      · have hw := hw.1 c_17
        refine gw_forget (ls' := [some (.ref (ad 0)), some (.int p1), some (.int p2), none, some (.int x4), some (.int x5), some (.int x6), none]) (gw_sub.s (gw_sub.s (gw_sub.s (gw_sub.n (gw_sub.s (gw_sub.s (gw_sub.s (gw_sub.n gw_sub.z)))))))) ?_
        exact tk_X6_rid_114   ih x4 x5 x6 h_15 hw
      · have hw := hw.2 c_17
        refine gw_iload dX6_rid_91 rfl ?_
        refine gw_if_lt (tgt := 106) dX6_rid_93 (by decide) (fun c_18 => ?_) (fun c_18 => ?_)
        · have hw := hw.1 c_18
          refine gw_forget (ls' := [some (.ref (ad 0)), some (.int p1), some (.int p2), none, none, none, some (.int x6), some (.int r_16)]) (gw_sub.s (gw_sub.s (gw_sub.s (gw_sub.n (gw_sub.n (gw_sub.n (gw_sub.s (gw_sub.s gw_sub.z)))))))) ?_
          exact tk_X6_rid_106   ih x6 r_16 h_15 hw
        · have hw := hw.2 c_18
          refine gw_iload dX6_rid_96 rfl ?_
          refine gw_iload dX6_rid_98 rfl ?_
          refine gw_icmp_lt (tgt := 106) dX6_rid_100 (by decide) (fun c_19 => ?_) (fun c_19 => ?_)
          · have hw := hw.1 c_19
            refine gw_forget (ls' := [some (.ref (ad 0)), some (.int p1), some (.int p2), none, none, none, some (.int x6), some (.int r_16)]) (gw_sub.s (gw_sub.s (gw_sub.s (gw_sub.n (gw_sub.n (gw_sub.n (gw_sub.s (gw_sub.s gw_sub.z)))))))) ?_
            exact tk_X6_rid_106   ih x6 r_16 h_15 hw
          · have hw := hw.2 c_19
            refine gw_goto (tgt := 114) dX6_rid_103 (by decide) ?_
            refine gw_forget (ls' := [some (.ref (ad 0)), some (.int p1), some (.int p2), none, some (.int x4), some (.int x5), some (.int x6), none]) (gw_sub.s (gw_sub.s (gw_sub.s (gw_sub.n (gw_sub.s (gw_sub.s (gw_sub.s (gw_sub.n gw_sub.z)))))))) ?_
            exact tk_X6_rid_114   ih x4 x5 x6 h_15 hw
def wk_X6_rid_40 (p1 : Int32) (p2 : Int32)  (Q : Int32 → gw_H → Prop) : Int32 → gw_H → Prop :=
  fun s0 h => ((s0 = 0 → (wp_X6_begins h  (fun _ h_11 => (∃ n_20 : Nat, wl_X6_rid_66 p1 p2  Q n_20 (-9 : Int32) (-9 : Int32) (0 : Int32) h_11)))) ∧ (¬ s0 = 0 → (wp_X6_refuse h s0 (fun r_22 h_21 => Q r_22 h_21))))
set_option maxRecDepth 100000 in
set_option maxHeartbeats 4000000 in
theorem tk_X6_rid_40 {l : Launch} {ad : Nat → Nat} {X : gw_X} {p1 : Int32} {p2 : Int32}  {Q : Int32 → gw_H → Prop}   (s0 : Int32) (h : gw_H) (hw : wk_X6_rid_40 p1 p2  Q s0 h) : gw_G l vM ad cX6_rid RX6 8 (some .int) 6 136 Q X h 40 [some (.ref (ad 0)), some (.int p1), some (.int p2), none, none, none, none, none] [.int s0] := by
  unfold wk_X6_rid_40 at hw
  refine gw_istore_n (ls' := [some (.ref (ad 0)), some (.int p1), some (.int p2), some (.int s0), none, none, none, none]) dX6_rid_40 rfl (Nat.le_of_ble_eq_true rfl) rfl ?_
  refine gw_iload_n dX6_rid_41 rfl rfl ?_
  refine gw_if_eq (tgt := 51) dX6_rid_42 (by decide) (fun c_10 => ?_) (fun c_10 => ?_)
  · have hw := hw.1 c_10
    refine gw_aload_n dX6_rid_51 rfl rfl ?_
    refine gw_callVv (As := []) (rest := []) rfl (gc_X6_begins  hw) mX6_begins lmX6_96 oX6 clX6 rfl rfl ⟨Nat.le_of_ble_eq_true rfl, Nat.le_of_ble_eq_true rfl⟩ (Nat.le_of_ble_eq_true rfl) dX6_rid_52 (fun h_11 hw => ?_)
    refine gw_bipush dX6_rid_55 bp_m9 ?_
    refine gw_istore (ls' := [some (.ref (ad 0)), some (.int p1), some (.int p2), some (.int s0), some (.int (-9 : Int32)), none, none, none]) dX6_rid_57 (Nat.le_of_ble_eq_true rfl) rfl ?_
    refine gw_bipush dX6_rid_59 bp_m9 ?_
    refine gw_istore (ls' := [some (.ref (ad 0)), some (.int p1), some (.int p2), some (.int s0), some (.int (-9 : Int32)), some (.int (-9 : Int32)), none, none]) dX6_rid_61 (Nat.le_of_ble_eq_true rfl) rfl ?_
    refine gw_iconst dX6_rid_63 ic_0 ?_
    refine gw_istore (ls' := [some (.ref (ad 0)), some (.int p1), some (.int p2), some (.int s0), some (.int (-9 : Int32)), some (.int (-9 : Int32)), some (.int (0 : Int32)), none]) dX6_rid_64 (Nat.le_of_ble_eq_true rfl) rfl ?_
    refine gw_forget (ls' := [some (.ref (ad 0)), some (.int p1), some (.int p2), none, some (.int (-9 : Int32)), some (.int (-9 : Int32)), some (.int (0 : Int32)), none]) (gw_sub.s (gw_sub.s (gw_sub.s (gw_sub.n (gw_sub.s (gw_sub.s (gw_sub.s (gw_sub.n gw_sub.z)))))))) ?_
    obtain ⟨n_20, hw⟩ := hw
    exact tl_X6_rid_66   n_20 (-9 : Int32) (-9 : Int32) (0 : Int32) h_11 hw
  · have hw := hw.2 c_10
    refine gw_aload_n dX6_rid_45 rfl rfl ?_
    refine gw_iload_n dX6_rid_46 rfl rfl ?_
    refine gw_callVi (As := [.int s0]) (rest := []) rfl (gc_X6_refuse  hw) mX6_refuse lmX6_120 oX6 clX6 rfl rfl ⟨Nat.le_of_ble_eq_true rfl, Nat.le_of_ble_eq_true rfl⟩ (Nat.le_of_ble_eq_true rfl) dX6_rid_47 (fun r_22 h_21 hw => ?_)
    exact gw_ireturn (ty := .int) hw rfl rfl dX6_rid_50
def wp_X6_rid (h : gw_H) (p1 : Int32) (p2 : Int32) (Q : Int32 → gw_H → Prop) : Prop :=
  (wp_X6_isHead h p1 (fun r_2 h_1 => ((¬ r_2 = 0 → (wp_X6_isIn h_1 p2 (2 : Int32) (fun r_5 h_4 => ((¬ r_5 = 0 → (wp_X6_at h_4 p1 (3 : Int32) (fun r_8 h_7 => ((0 ≤ r_8 → (wk_X6_rid_40 p1 p2  Q (0 : Int32) h_7)) ∧ (¬ 0 ≤ r_8 → (wk_X6_rid_40 p1 p2  Q (-3 : Int32) h_7)))))) ∧ (r_5 = 0 → (wk_X6_rid_40 p1 p2  Q (-2 : Int32) h_4)))))) ∧ (r_2 = 0 → (wk_X6_rid_40 p1 p2  Q (-1 : Int32) h_1)))))
set_option maxRecDepth 100000 in
set_option maxHeartbeats 4000000 in
theorem gc_X6_rid {l : Launch} {ad : Nat → Nat} {h : gw_H} {p1 : Int32} {p2 : Int32} {Q : Int32 → gw_H → Prop}  (hw : wp_X6_rid h p1 p2 Q) : gw_C l yX6_rid cX6_rid 8 (some .int) 6 136 vM ad [.ref (ad 0), .int p1, .int p2] h Q := by
  refine gw_entry (own := RX6) [some (.ref (ad 0)), some (.int p1), some (.int p2), none, none, none, none, none] pl_X6 rfl rfl (Nat.le_of_ble_eq_true rfl) rfl (fun X => ?_)
  unfold wp_X6_rid at hw
  refine gw_aload_n dX6_rid_0 rfl rfl ?_
  refine gw_iload_n dX6_rid_1 rfl rfl ?_
  refine gw_callVi (As := [.int p1]) (rest := []) rfl (gc_X6_isHead  hw) mX6_isHead lmX6_144 oX6 clX6 rfl rfl ⟨Nat.le_of_ble_eq_true rfl, Nat.le_of_ble_eq_true rfl⟩ (Nat.le_of_ble_eq_true rfl) dX6_rid_2 (fun r_2 h_1 hw => ?_)
  refine gw_if_ne (tgt := 12) dX6_rid_5 (by decide) (fun c_3 => ?_) (fun c_3 => ?_)
  · have hw := hw.1 c_3
    refine gw_iload_n dX6_rid_12 rfl rfl ?_
    refine gw_iconst dX6_rid_13 ic_2 ?_
    refine gw_callSi (As := [.int p2, .int (2 : Int32)]) (rest := []) rfl (gc_X6_isIn  hw) mX6_isIn lmX6_53 rfl rfl ⟨Nat.le_of_ble_eq_true rfl, Nat.le_of_ble_eq_true rfl⟩ (Nat.le_of_ble_eq_true rfl) dX6_rid_14 (fun r_5 h_4 hw => ?_)
    refine gw_if_ne (tgt := 25) dX6_rid_17 (by decide) (fun c_6 => ?_) (fun c_6 => ?_)
    · have hw := hw.1 c_6
      refine gw_aload_n dX6_rid_25 rfl rfl ?_
      refine gw_iload_n dX6_rid_26 rfl rfl ?_
      refine gw_iconst dX6_rid_27 ic_3 ?_
      refine gw_callVi (As := [.int p1, .int (3 : Int32)]) (rest := []) rfl (gc_X6_at  hw) mX6_at lmX6_61 oX6 clX6 rfl rfl ⟨Nat.le_of_ble_eq_true rfl, Nat.le_of_ble_eq_true rfl⟩ (Nat.le_of_ble_eq_true rfl) dX6_rid_28 (fun r_8 h_7 hw => ?_)
      refine gw_if_ge (tgt := 39) dX6_rid_31 (by decide) (fun c_9 => ?_) (fun c_9 => ?_)
      · have hw := hw.1 c_9
        refine gw_iconst dX6_rid_39 ic_0 ?_
        exact tk_X6_rid_40   (0 : Int32) h_7 hw
      · have hw := hw.2 c_9
        refine gw_bipush dX6_rid_34 bp_m3 ?_
        refine gw_goto (tgt := 40) dX6_rid_36 (by decide) ?_
        exact tk_X6_rid_40   (-3 : Int32) h_7 hw
    · have hw := hw.2 c_6
      refine gw_bipush dX6_rid_20 bp_m2 ?_
      refine gw_goto (tgt := 40) dX6_rid_22 (by decide) ?_
      exact tk_X6_rid_40   (-2 : Int32) h_4 hw
  · have hw := hw.2 c_3
    refine gw_iconst dX6_rid_8 ic_m1 ?_
    refine gw_goto (tgt := 40) dX6_rid_9 (by decide) ?_
    exact tk_X6_rid_40   (-1 : Int32) h_1 hw
def wk_X6_row_24 (p1 : Int32)  (Q : Int32 → gw_H → Prop) : Int32 → gw_H → Prop :=
  fun x2 h => ((x2 = 0 → (vp_in (h 0 16) 6 ∧ Q ((gw_up (gw_up h 13 (h 0 16).toNatClampNeg p1) 0 16 (((gw_up h 13 (h 0 16).toNatClampNeg p1) 0 16) + (1 : Int32))) 0 16) (gw_up (gw_up h 13 (h 0 16).toNatClampNeg p1) 0 16 (((gw_up h 13 (h 0 16).toNatClampNeg p1) 0 16) + (1 : Int32))))) ∧ (¬ x2 = 0 → (wp_X6_refuse h x2 (fun r_7 h_6 => Q r_7 h_6))))
set_option maxRecDepth 100000 in
set_option maxHeartbeats 4000000 in
theorem tk_X6_row_24 {l : Launch} {ad : Nat → Nat} {X : gw_X} {p1 : Int32}  {Q : Int32 → gw_H → Prop}   (x2 : Int32) (h : gw_H) (hw : wk_X6_row_24 p1  Q x2 h) : gw_G l vM ad cX6_row RX6 3 (some .int) 1 22 Q X h 24 [some (.ref (ad 0)), some (.int p1), some (.int x2)] [] := by
  unfold wk_X6_row_24 at hw
  refine gw_iload_n dX6_row_24 rfl rfl ?_
  refine gw_if_eq (tgt := 34) dX6_row_25 (by decide) (fun c_4 => ?_) (fun c_4 => ?_)
  · have hw := hw.1 c_4
    refine gw_aload_n dX6_row_34 rfl rfl ?_
    refine gw_getf (k := 15) (v := .ref (ad 13)) oX6 clX6 inUX6 (Nat.le_of_ble_eq_true rfl) rfl lfX6_46 rfl dX6_row_35 ?_
    refine gw_aload_n dX6_row_38 rfl rfl ?_
    refine gw_getf (k := 16) (v := .int (h 0 16)) oX6 clX6 inUX6 (Nat.le_of_ble_eq_true rfl) rfl lfX6_180 rfl dX6_row_39 ?_
    refine gw_iload_n dX6_row_42 rfl rfl ?_
    have q_5 := hw.1
    have hw := hw.2
    refine gw_iast am_13 q_5 rfl dX6_row_43 ?_
    refine gw_aload_n dX6_row_44 rfl rfl ?_
    refine gw_dup dX6_row_45 rfl ?_
    refine gw_getf (k := 16) (v := .int ((gw_up h 13 (h 0 16).toNatClampNeg p1) 0 16)) oX6 clX6 inUX6 (Nat.le_of_ble_eq_true rfl) rfl lfX6_180 rfl dX6_row_46 ?_
    refine gw_iconst dX6_row_49 ic_1 ?_
    refine gw_iadd dX6_row_50 ?_
    refine gw_putf (k := 16) (ty := .int) oX6 clX6 inUX6 tyX6_ok nmX6 (Nat.le_of_ble_eq_true rfl) rfl lfX6_180 (by decide +kernel) rfl rfl st_X6_16 dX6_row_51 ?_
    refine gw_aload_n dX6_row_54 rfl rfl ?_
    refine gw_getf (k := 16) (v := .int ((gw_up (gw_up h 13 (h 0 16).toNatClampNeg p1) 0 16 (((gw_up h 13 (h 0 16).toNatClampNeg p1) 0 16) + (1 : Int32))) 0 16)) oX6 clX6 inUX6 (Nat.le_of_ble_eq_true rfl) rfl lfX6_180 rfl dX6_row_55 ?_
    exact gw_ireturn (ty := .int) hw rfl rfl dX6_row_58
  · have hw := hw.2 c_4
    refine gw_aload_n dX6_row_28 rfl rfl ?_
    refine gw_iload_n dX6_row_29 rfl rfl ?_
    refine gw_callVi (As := [.int x2]) (rest := []) rfl (gc_X6_refuse  hw) mX6_refuse lmX6_120 oX6 clX6 rfl rfl ⟨Nat.le_of_ble_eq_true rfl, Nat.le_of_ble_eq_true rfl⟩ (Nat.le_of_ble_eq_true rfl) dX6_row_30 (fun r_7 h_6 hw => ?_)
    exact gw_ireturn (ty := .int) hw rfl rfl dX6_row_33
def wp_X6_row (h : gw_H) (p1 : Int32) (Q : Int32 → gw_H → Prop) : Prop :=
  (wp_X6_within h p1 (0 : Int32) (9 : Int32) (fun r_2 h_1 => ((¬ r_2 = 0 → (wk_X6_row_24 p1  Q r_2 h_1)) ∧ (r_2 = 0 → ((¬ (h_1 0 16) = (6 : Int32) → (wk_X6_row_24 p1  Q r_2 h_1)) ∧ ((h_1 0 16) = (6 : Int32) → (wk_X6_row_24 p1  Q (-6 : Int32) h_1)))))))
set_option maxRecDepth 100000 in
set_option maxHeartbeats 4000000 in
theorem gc_X6_row {l : Launch} {ad : Nat → Nat} {h : gw_H} {p1 : Int32} {Q : Int32 → gw_H → Prop}  (hw : wp_X6_row h p1 Q) : gw_C l yX6_row cX6_row 3 (some .int) 1 22 vM ad [.ref (ad 0), .int p1] h Q := by
  refine gw_entry (own := RX6) [some (.ref (ad 0)), some (.int p1), none] pl_X6 rfl rfl (Nat.le_of_ble_eq_true rfl) rfl (fun X => ?_)
  unfold wp_X6_row at hw
  refine gw_iload_n dX6_row_0 rfl rfl ?_
  refine gw_iconst dX6_row_1 ic_0 ?_
  refine gw_bipush dX6_row_2 bp_9 ?_
  refine gw_callSi (As := [.int p1, .int (0 : Int32), .int (9 : Int32)]) (rest := []) rfl (gc_X6_within  hw) mX6_within lmX6_112 rfl rfl ⟨Nat.le_of_ble_eq_true rfl, Nat.le_of_ble_eq_true rfl⟩ (Nat.le_of_ble_eq_true rfl) dX6_row_4 (fun r_2 h_1 hw => ?_)
  refine gw_istore_n (ls' := [some (.ref (ad 0)), some (.int p1), some (.int r_2)]) dX6_row_7 rfl (Nat.le_of_ble_eq_true rfl) rfl ?_
  refine gw_iload_n dX6_row_8 rfl rfl ?_
  refine gw_if_ne (tgt := 24) dX6_row_9 (by decide) (fun c_3 => ?_) (fun c_3 => ?_)
  · have hw := hw.1 c_3
    exact tk_X6_row_24   r_2 h_1 hw
  · have hw := hw.2 c_3
    refine gw_aload_n dX6_row_12 rfl rfl ?_
    refine gw_getf (k := 16) (v := .int (h_1 0 16)) oX6 clX6 inUX6 (Nat.le_of_ble_eq_true rfl) rfl lfX6_180 rfl dX6_row_13 ?_
    refine gw_bipush dX6_row_16 bp_6 ?_
    refine gw_icmp_ne (tgt := 24) dX6_row_18 (by decide) (fun c_8 => ?_) (fun c_8 => ?_)
    · have hw := hw.1 c_8
      exact tk_X6_row_24   r_2 h_1 hw
    · have hw := hw.2 c_8
      refine gw_bipush dX6_row_21 bp_m6 ?_
      refine gw_istore_n (ls' := [some (.ref (ad 0)), some (.int p1), some (.int (-6 : Int32))]) dX6_row_23 rfl (Nat.le_of_ble_eq_true rfl) rfl ?_
      exact tk_X6_row_24   (-6 : Int32) h_1 hw
def wk_X6_seats_137 (p1 : Int32) (K36 : Int32 → Int32 → Int32 → gw_H → Prop) (K53 : Int32 → Int32 → Int32 → Int32 → gw_H → Prop) (Q : Int32 → gw_H → Prop) : Int32 → Int32 → Int32 → Int32 → gw_H → Prop :=
  fun x4 x5 x6 s0 h => (K53 s0 x4 x5 (x6 + (1 : Int32)) h)
set_option maxRecDepth 100000 in
set_option maxHeartbeats 4000000 in
theorem tk_X6_seats_137 {l : Launch} {ad : Nat → Nat} {X : gw_X} {p1 : Int32} {K36 : Int32 → Int32 → Int32 → gw_H → Prop} {K53 : Int32 → Int32 → Int32 → Int32 → gw_H → Prop} {Q : Int32 → gw_H → Prop}  (hK36 : ∀ (y3 : Int32) (y4 : Int32) (y5 : Int32) (h : gw_H), K36 y3 y4 y5 h → gw_G l vM ad cX6_seats RX6 9 (some .int) 7 158 Q X h 36 [some (.ref (ad 0)), some (.int p1), none, some (.int y3), some (.int y4), some (.int y5), none, none, none] []) (hK53 : ∀ (y3 : Int32) (y4 : Int32) (y5 : Int32) (y6 : Int32) (h : gw_H), K53 y3 y4 y5 y6 h → gw_G l vM ad cX6_seats RX6 9 (some .int) 7 158 Q X h 53 [some (.ref (ad 0)), some (.int p1), none, some (.int y3), some (.int y4), some (.int y5), some (.int y6), none, none] []) (x4 : Int32) (x5 : Int32) (x6 : Int32) (s0 : Int32) (h : gw_H) (hw : wk_X6_seats_137 p1 K36 K53 Q x4 x5 x6 s0 h) : gw_G l vM ad cX6_seats RX6 9 (some .int) 7 158 Q X h 137 [some (.ref (ad 0)), some (.int p1), none, none, some (.int x4), some (.int x5), some (.int x6), none, none] [.int s0] := by
  unfold wk_X6_seats_137 at hw
  refine gw_istore_n (ls' := [some (.ref (ad 0)), some (.int p1), none, some (.int s0), some (.int x4), some (.int x5), some (.int x6), none, none]) dX6_seats_137 rfl (Nat.le_of_ble_eq_true rfl) rfl ?_
  refine gw_iinc (ls' := [some (.ref (ad 0)), some (.int p1), none, some (.int s0), some (.int x4), some (.int x5), some (.int (x6 + (1 : Int32))), none, none]) dX6_seats_138 rfl (congrArg (fun z => x6 + z) ic_1) (Nat.le_of_ble_eq_true rfl) rfl ?_
  refine gw_goto (tgt := 53) dX6_seats_141 (by decide) ?_
  exact hK53 s0 x4 x5 (x6 + (1 : Int32)) h hw
def wk_X6_seats_123 (p1 : Int32) (K36 : Int32 → Int32 → Int32 → gw_H → Prop) (K53 : Int32 → Int32 → Int32 → Int32 → gw_H → Prop) (Q : Int32 → gw_H → Prop) : Int32 → Int32 → Int32 → Int32 → Int32 → gw_H → Prop :=
  fun x3 x5 x6 x8 s0 h => ((x3 ≤ x8 → (wk_X6_seats_137 p1 K36 K53 Q s0 x5 x6 x3 h)) ∧ (¬ x3 ≤ x8 → (wk_X6_seats_137 p1 K36 K53 Q s0 x5 x6 x8 h)))
set_option maxRecDepth 100000 in
set_option maxHeartbeats 4000000 in
theorem tk_X6_seats_123 {l : Launch} {ad : Nat → Nat} {X : gw_X} {p1 : Int32} {K36 : Int32 → Int32 → Int32 → gw_H → Prop} {K53 : Int32 → Int32 → Int32 → Int32 → gw_H → Prop} {Q : Int32 → gw_H → Prop}  (hK36 : ∀ (y3 : Int32) (y4 : Int32) (y5 : Int32) (h : gw_H), K36 y3 y4 y5 h → gw_G l vM ad cX6_seats RX6 9 (some .int) 7 158 Q X h 36 [some (.ref (ad 0)), some (.int p1), none, some (.int y3), some (.int y4), some (.int y5), none, none, none] []) (hK53 : ∀ (y3 : Int32) (y4 : Int32) (y5 : Int32) (y6 : Int32) (h : gw_H), K53 y3 y4 y5 y6 h → gw_G l vM ad cX6_seats RX6 9 (some .int) 7 158 Q X h 53 [some (.ref (ad 0)), some (.int p1), none, some (.int y3), some (.int y4), some (.int y5), some (.int y6), none, none] []) (x3 : Int32) (x5 : Int32) (x6 : Int32) (x8 : Int32) (s0 : Int32) (h : gw_H) (hw : wk_X6_seats_123 p1 K36 K53 Q x3 x5 x6 x8 s0 h) : gw_G l vM ad cX6_seats RX6 9 (some .int) 7 158 Q X h 123 [some (.ref (ad 0)), some (.int p1), none, some (.int x3), none, some (.int x5), some (.int x6), none, some (.int x8)] [.int s0] := by
  unfold wk_X6_seats_123 at hw
  refine gw_istore (ls' := [some (.ref (ad 0)), some (.int p1), none, some (.int x3), some (.int s0), some (.int x5), some (.int x6), none, some (.int x8)]) dX6_seats_123 (Nat.le_of_ble_eq_true rfl) rfl ?_
  refine gw_iload dX6_seats_125 rfl ?_
  refine gw_iload_n dX6_seats_127 rfl rfl ?_
  refine gw_icmp_ge (tgt := 136) dX6_seats_128 (by decide) (fun c_18 => ?_) (fun c_18 => ?_)
  · have hw := hw.1 c_18
    refine gw_iload_n dX6_seats_136 rfl rfl ?_
    refine gw_forget (ls' := [some (.ref (ad 0)), some (.int p1), none, none, some (.int s0), some (.int x5), some (.int x6), none, none]) (gw_sub.s (gw_sub.s (gw_sub.n (gw_sub.n (gw_sub.s (gw_sub.s (gw_sub.s (gw_sub.n (gw_sub.n gw_sub.z))))))))) ?_
    exact tk_X6_seats_137  hK36 hK53 s0 x5 x6 x3 h hw
  · have hw := hw.2 c_18
    refine gw_iload dX6_seats_131 rfl ?_
    refine gw_goto (tgt := 137) dX6_seats_133 (by decide) ?_
    refine gw_forget (ls' := [some (.ref (ad 0)), some (.int p1), none, none, some (.int s0), some (.int x5), some (.int x6), none, none]) (gw_sub.s (gw_sub.s (gw_sub.n (gw_sub.n (gw_sub.s (gw_sub.s (gw_sub.s (gw_sub.n (gw_sub.n gw_sub.z))))))))) ?_
    exact tk_X6_seats_137  hK36 hK53 s0 x5 x6 x8 h hw
def wl_X6_seats_53 (p1 : Int32) (K36 : Int32 → Int32 → Int32 → gw_H → Prop) (Q : Int32 → gw_H → Prop) : Nat → Int32 → Int32 → Int32 → Int32 → gw_H → Prop
  | 0 => fun _ _ _ _ _ => False
  | n + 1 => fun x3 x4 x5 x6 h => (((h 2 3) ≤ x6 → (K36 x3 x4 (x5 + (1 : Int32)) h)) ∧ (¬ (h 2 3) ≤ x6 → (wp_X6_at h x5 (1 : Int32) (fun r_10 h_9 => (wp_X6_at h_9 x6 (1 : Int32) (fun r_12 h_11 => (wp_X6_puts h_11 x5 (1 : Int32) r_12 (fun _ h_13 => (wp_X6_puts h_13 x6 (1 : Int32) r_10 (fun _ h_14 => (wp_X6_haveBehind h_14 (-1 : Int32) p1 (fun r_16 h_15 => ((x3 ≤ r_16 → (wk_X6_seats_123 p1 K36 (wl_X6_seats_53 p1 K36 Q n) Q x3 x5 x6 r_16 x4 h_15)) ∧ (¬ x3 ≤ r_16 → (wk_X6_seats_123 p1 K36 (wl_X6_seats_53 p1 K36 Q n) Q x3 x5 x6 r_16 (((10 : Int32) * x5) + x6) h_15)))))))))))))))
set_option maxRecDepth 100000 in
set_option maxHeartbeats 4000000 in
theorem tl_X6_seats_53 {l : Launch} {ad : Nat → Nat} {X : gw_X} {p1 : Int32} {K36 : Int32 → Int32 → Int32 → gw_H → Prop} {Q : Int32 → gw_H → Prop}  (hK36 : ∀ (y3 : Int32) (y4 : Int32) (y5 : Int32) (h : gw_H), K36 y3 y4 y5 h → gw_G l vM ad cX6_seats RX6 9 (some .int) 7 158 Q X h 36 [some (.ref (ad 0)), some (.int p1), none, some (.int y3), some (.int y4), some (.int y5), none, none, none] []) : ∀ (n : Nat) (x3 : Int32) (x4 : Int32) (x5 : Int32) (x6 : Int32) (h : gw_H), wl_X6_seats_53 p1 K36 Q n x3 x4 x5 x6 h → gw_G l vM ad cX6_seats RX6 9 (some .int) 7 158 Q X h 53 [some (.ref (ad 0)), some (.int p1), none, some (.int x3), some (.int x4), some (.int x5), some (.int x6), none, none] [] := by
  intro n
  induction n with
  | zero => intro x3 x4 x5 x6 h hw; exact hw.elim
  | succ n ih =>
    intro x3 x4 x5 x6 h hw
    unfold wl_X6_seats_53 at hw
    refine gw_iload dX6_seats_53 rfl ?_
    refine gw_aload_n dX6_seats_55 rfl rfl ?_
    refine gw_getf (k := 1) (v := .ref (ad 2)) oX6 clX6 inUX6 (Nat.le_of_ble_eq_true rfl) rfl lfX6_13 rfl dX6_seats_56 ?_
    refine gw_iconst dX6_seats_59 ic_3 ?_
    refine gw_iald am_2 in_3_73 cl_3 dX6_seats_60 ?_
    refine gw_icmp_ge (tgt := 144) dX6_seats_61 (by decide) (fun c_8 => ?_) (fun c_8 => ?_)
    · have hw := hw.1 c_8
      refine gw_iinc (ls' := [some (.ref (ad 0)), some (.int p1), none, some (.int x3), some (.int x4), some (.int (x5 + (1 : Int32))), some (.int x6), none, none]) dX6_seats_144 rfl (congrArg (fun z => x5 + z) ic_1) (Nat.le_of_ble_eq_true rfl) rfl ?_
      refine gw_goto (tgt := 36) dX6_seats_147 (by decide) ?_
      refine gw_forget (ls' := [some (.ref (ad 0)), some (.int p1), none, some (.int x3), some (.int x4), some (.int (x5 + (1 : Int32))), none, none, none]) (gw_sub.s (gw_sub.s (gw_sub.n (gw_sub.s (gw_sub.s (gw_sub.s (gw_sub.n (gw_sub.n (gw_sub.n gw_sub.z))))))))) ?_
      exact hK36 x3 x4 (x5 + (1 : Int32)) h hw
    · have hw := hw.2 c_8
      refine gw_aload_n dX6_seats_64 rfl rfl ?_
      refine gw_iload dX6_seats_65 rfl ?_
      refine gw_iconst dX6_seats_67 ic_1 ?_
      refine gw_callVi (As := [.int x5, .int (1 : Int32)]) (rest := []) rfl (gc_X6_at  hw) mX6_at lmX6_61 oX6 clX6 rfl rfl ⟨Nat.le_of_ble_eq_true rfl, Nat.le_of_ble_eq_true rfl⟩ (Nat.le_of_ble_eq_true rfl) dX6_seats_68 (fun r_10 h_9 hw => ?_)
      refine gw_istore (ls' := [some (.ref (ad 0)), some (.int p1), none, some (.int x3), some (.int x4), some (.int x5), some (.int x6), some (.int r_10), none]) dX6_seats_71 (Nat.le_of_ble_eq_true rfl) rfl ?_
      refine gw_aload_n dX6_seats_73 rfl rfl ?_
      refine gw_iload dX6_seats_74 rfl ?_
      refine gw_iconst dX6_seats_76 ic_1 ?_
      refine gw_aload_n dX6_seats_77 rfl rfl ?_
      refine gw_iload dX6_seats_78 rfl ?_
      refine gw_iconst dX6_seats_80 ic_1 ?_
      refine gw_callVi (As := [.int x6, .int (1 : Int32)]) (rest := [.int (1 : Int32), .int x5, .ref (ad 0)]) rfl (gc_X6_at  hw) mX6_at lmX6_61 oX6 clX6 rfl rfl ⟨Nat.le_of_ble_eq_true rfl, Nat.le_of_ble_eq_true rfl⟩ (Nat.le_of_ble_eq_true rfl) dX6_seats_81 (fun r_12 h_11 hw => ?_)
      refine gw_callVv (As := [.int x5, .int (1 : Int32), .int r_12]) (rest := []) rfl (gc_X6_puts  hw) mX6_puts lmX6_64 oX6 clX6 rfl rfl ⟨Nat.le_of_ble_eq_true rfl, Nat.le_of_ble_eq_true rfl⟩ (Nat.le_of_ble_eq_true rfl) dX6_seats_84 (fun h_13 hw => ?_)
      refine gw_aload_n dX6_seats_87 rfl rfl ?_
      refine gw_iload dX6_seats_88 rfl ?_
      refine gw_iconst dX6_seats_90 ic_1 ?_
      refine gw_iload dX6_seats_91 rfl ?_
      refine gw_callVv (As := [.int x6, .int (1 : Int32), .int r_10]) (rest := []) rfl (gc_X6_puts  hw) mX6_puts lmX6_64 oX6 clX6 rfl rfl ⟨Nat.le_of_ble_eq_true rfl, Nat.le_of_ble_eq_true rfl⟩ (Nat.le_of_ble_eq_true rfl) dX6_seats_93 (fun h_14 hw => ?_)
      refine gw_aload_n dX6_seats_96 rfl rfl ?_
      refine gw_iconst dX6_seats_97 ic_m1 ?_
      refine gw_iload_n dX6_seats_98 rfl rfl ?_
      refine gw_callVi (As := [.int (-1 : Int32), .int p1]) (rest := []) rfl (gc_X6_haveBehind  hw) mX6_haveBehind lmX6_167 oX6 clX6 rfl rfl ⟨Nat.le_of_ble_eq_true rfl, Nat.le_of_ble_eq_true rfl⟩ (Nat.le_of_ble_eq_true rfl) dX6_seats_99 (fun r_16 h_15 hw => ?_)
      refine gw_istore (ls' := [some (.ref (ad 0)), some (.int p1), none, some (.int x3), some (.int x4), some (.int x5), some (.int x6), some (.int r_10), some (.int r_16)]) dX6_seats_102 (Nat.le_of_ble_eq_true rfl) rfl ?_
      refine gw_iload dX6_seats_104 rfl ?_
      refine gw_iload_n dX6_seats_106 rfl rfl ?_
      refine gw_icmp_ge (tgt := 121) dX6_seats_107 (by decide) (fun c_17 => ?_) (fun c_17 => ?_)
      · have hw := hw.1 c_17
        refine gw_iload dX6_seats_121 rfl ?_
        refine gw_forget (ls' := [some (.ref (ad 0)), some (.int p1), none, some (.int x3), none, some (.int x5), some (.int x6), none, some (.int r_16)]) (gw_sub.s (gw_sub.s (gw_sub.n (gw_sub.s (gw_sub.n (gw_sub.s (gw_sub.s (gw_sub.n (gw_sub.s gw_sub.z))))))))) ?_
        exact tk_X6_seats_123  hK36  ih x3 x5 x6 r_16 x4 h_15 hw
      · have hw := hw.2 c_17
        refine gw_bipush dX6_seats_110 bp_10 ?_
        refine gw_iload dX6_seats_112 rfl ?_
        refine gw_imul dX6_seats_114 ?_
        refine gw_iload dX6_seats_115 rfl ?_
        refine gw_iadd dX6_seats_117 ?_
        refine gw_goto (tgt := 123) dX6_seats_118 (by decide) ?_
        refine gw_forget (ls' := [some (.ref (ad 0)), some (.int p1), none, some (.int x3), none, some (.int x5), some (.int x6), none, some (.int r_16)]) (gw_sub.s (gw_sub.s (gw_sub.n (gw_sub.s (gw_sub.n (gw_sub.s (gw_sub.s (gw_sub.n (gw_sub.s gw_sub.z))))))))) ?_
        exact tk_X6_seats_123  hK36  ih x3 x5 x6 r_16 (((10 : Int32) * x5) + x6) h_15 hw
def wl_X6_seats_36 (p1 : Int32)  (Q : Int32 → gw_H → Prop) : Nat → Int32 → Int32 → Int32 → gw_H → Prop
  | 0 => fun _ _ _ _ => False
  | n + 1 => fun x3 x4 x5 h => (((h 2 3) ≤ x5 → Q x4 h) ∧ (¬ (h 2 3) ≤ x5 → (∃ n_19 : Nat, wl_X6_seats_53 p1 (wl_X6_seats_36 p1  Q n) Q n_19 x3 x4 x5 (x5 + (1 : Int32)) h)))
set_option maxRecDepth 100000 in
set_option maxHeartbeats 4000000 in
theorem tl_X6_seats_36 {l : Launch} {ad : Nat → Nat} {X : gw_X} {p1 : Int32}  {Q : Int32 → gw_H → Prop}   : ∀ (n : Nat) (x3 : Int32) (x4 : Int32) (x5 : Int32) (h : gw_H), wl_X6_seats_36 p1  Q n x3 x4 x5 h → gw_G l vM ad cX6_seats RX6 9 (some .int) 7 158 Q X h 36 [some (.ref (ad 0)), some (.int p1), none, some (.int x3), some (.int x4), some (.int x5), none, none, none] [] := by
  intro n
  induction n with
  | zero => intro x3 x4 x5 h hw; exact hw.elim
  | succ n ih =>
    intro x3 x4 x5 h hw
    unfold wl_X6_seats_36 at hw
    refine gw_iload dX6_seats_36 rfl ?_
    refine gw_aload_n dX6_seats_38 rfl rfl ?_
    refine gw_getf (k := 1) (v := .ref (ad 2)) oX6 clX6 inUX6 (Nat.le_of_ble_eq_true rfl) rfl lfX6_13 rfl dX6_seats_39 ?_
    refine gw_iconst dX6_seats_42 ic_3 ?_
    refine gw_iald am_2 in_3_73 cl_3 dX6_seats_43 ?_
    refine gw_icmp_ge (tgt := 150) dX6_seats_44 (by decide) (fun c_7 => ?_) (fun c_7 => ?_)
    · have hw := hw.1 c_7
      refine gw_iload dX6_seats_150 rfl ?_
      exact gw_ireturn (ty := .int) hw rfl rfl dX6_seats_152
    · have hw := hw.2 c_7
      refine gw_iload dX6_seats_47 rfl ?_
      refine gw_iconst dX6_seats_49 ic_1 ?_
      refine gw_iadd dX6_seats_50 ?_
      refine gw_istore (ls' := [some (.ref (ad 0)), some (.int p1), none, some (.int x3), some (.int x4), some (.int x5), some (.int (x5 + (1 : Int32))), none, none]) dX6_seats_51 (Nat.le_of_ble_eq_true rfl) rfl ?_
      obtain ⟨n_19, hw⟩ := hw
      exact tl_X6_seats_53  ih n_19 x3 x4 x5 (x5 + (1 : Int32)) h hw
def wp_X6_seats (h : gw_H) (p1 : Int32) (Q : Int32 → gw_H → Prop) : Prop :=
  (wp_X6_within h p1 (0 : Int32) (60 : Int32) (fun r_2 h_1 => ((r_2 = 0 → (wp_X6_begins h_1  (fun _ h_4 => (wp_X6_haveBehind h_4 (-1 : Int32) p1 (fun r_6 h_5 => (∃ n_20 : Nat, wl_X6_seats_36 p1  Q n_20 r_6 (-9 : Int32) (0 : Int32) h_5)))))) ∧ (¬ r_2 = 0 → (wp_X6_refuse h_1 r_2 (fun r_22 h_21 => Q r_22 h_21))))))
set_option maxRecDepth 100000 in
set_option maxHeartbeats 4000000 in
theorem gc_X6_seats {l : Launch} {ad : Nat → Nat} {h : gw_H} {p1 : Int32} {Q : Int32 → gw_H → Prop}  (hw : wp_X6_seats h p1 Q) : gw_C l yX6_seats cX6_seats 9 (some .int) 7 158 vM ad [.ref (ad 0), .int p1] h Q := by
  refine gw_entry (own := RX6) [some (.ref (ad 0)), some (.int p1), none, none, none, none, none, none, none] pl_X6 rfl rfl (Nat.le_of_ble_eq_true rfl) rfl (fun X => ?_)
  unfold wp_X6_seats at hw
  refine gw_iload_n dX6_seats_0 rfl rfl ?_
  refine gw_iconst dX6_seats_1 ic_0 ?_
  refine gw_bipush dX6_seats_2 bp_60 ?_
  refine gw_callSi (As := [.int p1, .int (0 : Int32), .int (60 : Int32)]) (rest := []) rfl (gc_X6_within  hw) mX6_within lmX6_112 rfl rfl ⟨Nat.le_of_ble_eq_true rfl, Nat.le_of_ble_eq_true rfl⟩ (Nat.le_of_ble_eq_true rfl) dX6_seats_4 (fun r_2 h_1 hw => ?_)
  refine gw_istore_n (ls' := [some (.ref (ad 0)), some (.int p1), some (.int r_2), none, none, none, none, none, none]) dX6_seats_7 rfl (Nat.le_of_ble_eq_true rfl) rfl ?_
  refine gw_iload_n dX6_seats_8 rfl rfl ?_
  refine gw_if_eq (tgt := 18) dX6_seats_9 (by decide) (fun c_3 => ?_) (fun c_3 => ?_)
  · have hw := hw.1 c_3
    refine gw_aload_n dX6_seats_18 rfl rfl ?_
    refine gw_callVv (As := []) (rest := []) rfl (gc_X6_begins  hw) mX6_begins lmX6_96 oX6 clX6 rfl rfl ⟨Nat.le_of_ble_eq_true rfl, Nat.le_of_ble_eq_true rfl⟩ (Nat.le_of_ble_eq_true rfl) dX6_seats_19 (fun h_4 hw => ?_)
    refine gw_aload_n dX6_seats_22 rfl rfl ?_
    refine gw_iconst dX6_seats_23 ic_m1 ?_
    refine gw_iload_n dX6_seats_24 rfl rfl ?_
    refine gw_callVi (As := [.int (-1 : Int32), .int p1]) (rest := []) rfl (gc_X6_haveBehind  hw) mX6_haveBehind lmX6_167 oX6 clX6 rfl rfl ⟨Nat.le_of_ble_eq_true rfl, Nat.le_of_ble_eq_true rfl⟩ (Nat.le_of_ble_eq_true rfl) dX6_seats_25 (fun r_6 h_5 hw => ?_)
    refine gw_istore_n (ls' := [some (.ref (ad 0)), some (.int p1), some (.int r_2), some (.int r_6), none, none, none, none, none]) dX6_seats_28 rfl (Nat.le_of_ble_eq_true rfl) rfl ?_
    refine gw_bipush dX6_seats_29 bp_m9 ?_
    refine gw_istore (ls' := [some (.ref (ad 0)), some (.int p1), some (.int r_2), some (.int r_6), some (.int (-9 : Int32)), none, none, none, none]) dX6_seats_31 (Nat.le_of_ble_eq_true rfl) rfl ?_
    refine gw_iconst dX6_seats_33 ic_0 ?_
    refine gw_istore (ls' := [some (.ref (ad 0)), some (.int p1), some (.int r_2), some (.int r_6), some (.int (-9 : Int32)), some (.int (0 : Int32)), none, none, none]) dX6_seats_34 (Nat.le_of_ble_eq_true rfl) rfl ?_
    refine gw_forget (ls' := [some (.ref (ad 0)), some (.int p1), none, some (.int r_6), some (.int (-9 : Int32)), some (.int (0 : Int32)), none, none, none]) (gw_sub.s (gw_sub.s (gw_sub.n (gw_sub.s (gw_sub.s (gw_sub.s (gw_sub.n (gw_sub.n (gw_sub.n gw_sub.z))))))))) ?_
    obtain ⟨n_20, hw⟩ := hw
    exact tl_X6_seats_36   n_20 r_6 (-9 : Int32) (0 : Int32) h_5 hw
  · have hw := hw.2 c_3
    refine gw_aload_n dX6_seats_12 rfl rfl ?_
    refine gw_iload_n dX6_seats_13 rfl rfl ?_
    refine gw_callVi (As := [.int r_2]) (rest := []) rfl (gc_X6_refuse  hw) mX6_refuse lmX6_120 oX6 clX6 rfl rfl ⟨Nat.le_of_ble_eq_true rfl, Nat.le_of_ble_eq_true rfl⟩ (Nat.le_of_ble_eq_true rfl) dX6_seats_14 (fun r_22 h_21 hw => ?_)
    exact gw_ireturn (ty := .int) hw rfl rfl dX6_seats_17
def wl_X6_seeds_37 (p1 : Int32) (p2 : Int32) (K28 : Int32 → Int32 → gw_H → Prop) (Q : Int32 → gw_H → Prop) : Nat → Int32 → Int32 → Int32 → gw_H → Prop
  | 0 => fun _ _ _ _ => False
  | n + 1 => fun x4 x5 x6 h => (((h 2 3) ≤ x6 → (wp_X6_goes h  (fun r_11 h_10 => (K28 x4 (x5 + (1 : Int32)) h_10)))) ∧ (¬ (h 2 3) ≤ x6 → (wp_X6_puts h x6 (1 : Int32) (((((x4 * (1664525 : Int32)) + (1013904223 : Int32)) &&& (2147483647 : Int32)) / (256 : Int32)) - ((((x4 * (1664525 : Int32)) + (1013904223 : Int32)) &&& (2147483647 : Int32)) / (256 : Int32)) / (5 : Int32) * (5 : Int32)) (fun _ h_12 => ((wl_X6_seeds_37 p1 p2 K28 Q n) ((x4 * (1664525 : Int32)) + (1013904223 : Int32)) x5 (x6 + (1 : Int32)) h_12)))))
set_option maxRecDepth 100000 in
set_option maxHeartbeats 4000000 in
theorem tl_X6_seeds_37 {l : Launch} {ad : Nat → Nat} {X : gw_X} {p1 : Int32} {p2 : Int32} {K28 : Int32 → Int32 → gw_H → Prop} {Q : Int32 → gw_H → Prop}  (hK28 : ∀ (y4 : Int32) (y5 : Int32) (h : gw_H), K28 y4 y5 h → gw_G l vM ad cX6_seeds RX6 7 (some .int) 5 113 Q X h 28 [some (.ref (ad 0)), some (.int p1), some (.int p2), none, some (.int y4), some (.int y5), none] []) : ∀ (n : Nat) (x4 : Int32) (x5 : Int32) (x6 : Int32) (h : gw_H), wl_X6_seeds_37 p1 p2 K28 Q n x4 x5 x6 h → gw_G l vM ad cX6_seeds RX6 7 (some .int) 5 113 Q X h 37 [some (.ref (ad 0)), some (.int p1), some (.int p2), none, some (.int x4), some (.int x5), some (.int x6)] [] := by
  intro n
  induction n with
  | zero => intro x4 x5 x6 h hw; exact hw.elim
  | succ n ih =>
    intro x4 x5 x6 h hw
    unfold wl_X6_seeds_37 at hw
    refine gw_iload dX6_seeds_37 rfl ?_
    refine gw_aload_n dX6_seeds_39 rfl rfl ?_
    refine gw_getf (k := 1) (v := .ref (ad 2)) oX6 clX6 inUX6 (Nat.le_of_ble_eq_true rfl) rfl lfX6_13 rfl dX6_seeds_40 ?_
    refine gw_iconst dX6_seeds_43 ic_3 ?_
    refine gw_iald am_2 in_3_73 cl_3 dX6_seeds_44 ?_
    refine gw_icmp_ge (tgt := 82) dX6_seeds_45 (by decide) (fun c_9 => ?_) (fun c_9 => ?_)
    · have hw := hw.1 c_9
      refine gw_aload_n dX6_seeds_82 rfl rfl ?_
      refine gw_callVi (As := []) (rest := []) rfl (gc_X6_goes  hw) mX6_goes lmX6_99 oX6 clX6 rfl rfl ⟨Nat.le_of_ble_eq_true rfl, Nat.le_of_ble_eq_true rfl⟩ (Nat.le_of_ble_eq_true rfl) dX6_seeds_83 (fun r_11 h_10 hw => ?_)
      refine gw_pop dX6_seeds_86 rfl ?_
      refine gw_iinc (ls' := [some (.ref (ad 0)), some (.int p1), some (.int p2), none, some (.int x4), some (.int (x5 + (1 : Int32))), some (.int x6)]) dX6_seeds_87 rfl (congrArg (fun z => x5 + z) ic_1) (Nat.le_of_ble_eq_true rfl) rfl ?_
      refine gw_goto (tgt := 28) dX6_seeds_90 (by decide) ?_
      refine gw_forget (ls' := [some (.ref (ad 0)), some (.int p1), some (.int p2), none, some (.int x4), some (.int (x5 + (1 : Int32))), none]) (gw_sub.s (gw_sub.s (gw_sub.s (gw_sub.n (gw_sub.s (gw_sub.s (gw_sub.n gw_sub.z))))))) ?_
      exact hK28 x4 (x5 + (1 : Int32)) h_10 hw
    · have hw := hw.2 c_9
      refine gw_iload dX6_seeds_48 rfl ?_
      refine gw_ldc dX6_seeds_50 lkX6_189 ?_
      refine gw_imul dX6_seeds_52 ?_
      refine gw_ldc dX6_seeds_53 lkX6_190 ?_
      refine gw_iadd dX6_seeds_55 ?_
      refine gw_istore (ls' := [some (.ref (ad 0)), some (.int p1), some (.int p2), none, some (.int ((x4 * (1664525 : Int32)) + (1013904223 : Int32))), some (.int x5), some (.int x6)]) dX6_seeds_56 (Nat.le_of_ble_eq_true rfl) rfl ?_
      refine gw_aload_n dX6_seeds_58 rfl rfl ?_
      refine gw_iload dX6_seeds_59 rfl ?_
      refine gw_iconst dX6_seeds_61 ic_1 ?_
      refine gw_iload dX6_seeds_62 rfl ?_
      refine gw_ldc dX6_seeds_64 lkX6_191 ?_
      refine gw_iand dX6_seeds_66 ?_
      refine gw_sipush dX6_seeds_67 sp_256 ?_
      refine gw_idiv dX6_seeds_70 (by decide) ?_
      refine gw_iconst dX6_seeds_71 ic_5 ?_
      refine gw_irem dX6_seeds_72 (by decide) ?_
      refine gw_callVv (As := [.int x6, .int (1 : Int32), .int (((((x4 * (1664525 : Int32)) + (1013904223 : Int32)) &&& (2147483647 : Int32)) / (256 : Int32)) - ((((x4 * (1664525 : Int32)) + (1013904223 : Int32)) &&& (2147483647 : Int32)) / (256 : Int32)) / (5 : Int32) * (5 : Int32))]) (rest := []) rfl (gc_X6_puts  hw) mX6_puts lmX6_64 oX6 clX6 rfl rfl ⟨Nat.le_of_ble_eq_true rfl, Nat.le_of_ble_eq_true rfl⟩ (Nat.le_of_ble_eq_true rfl) dX6_seeds_73 (fun h_12 hw => ?_)
      refine gw_iinc (ls' := [some (.ref (ad 0)), some (.int p1), some (.int p2), none, some (.int ((x4 * (1664525 : Int32)) + (1013904223 : Int32))), some (.int x5), some (.int (x6 + (1 : Int32)))]) dX6_seeds_76 rfl (congrArg (fun z => x6 + z) ic_1) (Nat.le_of_ble_eq_true rfl) rfl ?_
      refine gw_goto (tgt := 37) dX6_seeds_79 (by decide) ?_
      exact ih ((x4 * (1664525 : Int32)) + (1013904223 : Int32)) x5 (x6 + (1 : Int32)) h_12 hw
def wl_X6_seeds_28 (p1 : Int32) (p2 : Int32)  (Q : Int32 → gw_H → Prop) : Nat → Int32 → Int32 → gw_H → Prop
  | 0 => fun _ _ _ => False
  | n + 1 => fun x4 x5 h => ((p1 ≤ x5 → (wp_X6_haveIt h (-1 : Int32) (fun r_7 h_6 => (wp_X6_ends h_6  (fun _ h_8 => Q r_7 h_8))))) ∧ (¬ p1 ≤ x5 → (∃ n_13 : Nat, wl_X6_seeds_37 p1 p2 (wl_X6_seeds_28 p1 p2  Q n) Q n_13 x4 x5 (0 : Int32) h)))
set_option maxRecDepth 100000 in
set_option maxHeartbeats 4000000 in
theorem tl_X6_seeds_28 {l : Launch} {ad : Nat → Nat} {X : gw_X} {p1 : Int32} {p2 : Int32}  {Q : Int32 → gw_H → Prop}   : ∀ (n : Nat) (x4 : Int32) (x5 : Int32) (h : gw_H), wl_X6_seeds_28 p1 p2  Q n x4 x5 h → gw_G l vM ad cX6_seeds RX6 7 (some .int) 5 113 Q X h 28 [some (.ref (ad 0)), some (.int p1), some (.int p2), none, some (.int x4), some (.int x5), none] [] := by
  intro n
  induction n with
  | zero => intro x4 x5 h hw; exact hw.elim
  | succ n ih =>
    intro x4 x5 h hw
    unfold wl_X6_seeds_28 at hw
    refine gw_iload dX6_seeds_28 rfl ?_
    refine gw_iload_n dX6_seeds_30 rfl rfl ?_
    refine gw_icmp_ge (tgt := 93) dX6_seeds_31 (by decide) (fun c_5 => ?_) (fun c_5 => ?_)
    · have hw := hw.1 c_5
      refine gw_aload_n dX6_seeds_93 rfl rfl ?_
      refine gw_iconst dX6_seeds_94 ic_m1 ?_
      refine gw_callVi (As := [.int (-1 : Int32)]) (rest := []) rfl (gc_X6_haveIt  hw) mX6_haveIt lmX6_106 oX6 clX6 rfl rfl ⟨Nat.le_of_ble_eq_true rfl, Nat.le_of_ble_eq_true rfl⟩ (Nat.le_of_ble_eq_true rfl) dX6_seeds_95 (fun r_7 h_6 hw => ?_)
      refine gw_istore (ls' := [some (.ref (ad 0)), some (.int p1), some (.int p2), none, some (.int x4), some (.int r_7), none]) dX6_seeds_98 (Nat.le_of_ble_eq_true rfl) rfl ?_
      refine gw_aload_n dX6_seeds_100 rfl rfl ?_
      refine gw_callVv (As := []) (rest := []) rfl (gc_X6_ends  hw) mX6_ends lmX6_109 oX6 clX6 rfl rfl ⟨Nat.le_of_ble_eq_true rfl, Nat.le_of_ble_eq_true rfl⟩ (Nat.le_of_ble_eq_true rfl) dX6_seeds_101 (fun h_8 hw => ?_)
      refine gw_iload dX6_seeds_104 rfl ?_
      exact gw_ireturn (ty := .int) hw rfl rfl dX6_seeds_106
    · have hw := hw.2 c_5
      refine gw_iconst dX6_seeds_34 ic_0 ?_
      refine gw_istore (ls' := [some (.ref (ad 0)), some (.int p1), some (.int p2), none, some (.int x4), some (.int x5), some (.int (0 : Int32))]) dX6_seeds_35 (Nat.le_of_ble_eq_true rfl) rfl ?_
      obtain ⟨n_13, hw⟩ := hw
      exact tl_X6_seeds_37  ih n_13 x4 x5 (0 : Int32) h hw
def wp_X6_seeds (h : gw_H) (p1 : Int32) (p2 : Int32) (Q : Int32 → gw_H → Prop) : Prop :=
  (wp_X6_within h p1 (1 : Int32) (40 : Int32) (fun r_2 h_1 => ((r_2 = 0 → (wp_X6_begins h_1  (fun _ h_4 => (∃ n_14 : Nat, wl_X6_seeds_28 p1 p2  Q n_14 p2 (0 : Int32) h_4)))) ∧ (¬ r_2 = 0 → (wp_X6_refuse h_1 r_2 (fun r_16 h_15 => Q r_16 h_15))))))
set_option maxRecDepth 100000 in
set_option maxHeartbeats 4000000 in
theorem gc_X6_seeds {l : Launch} {ad : Nat → Nat} {h : gw_H} {p1 : Int32} {p2 : Int32} {Q : Int32 → gw_H → Prop}  (hw : wp_X6_seeds h p1 p2 Q) : gw_C l yX6_seeds cX6_seeds 7 (some .int) 5 113 vM ad [.ref (ad 0), .int p1, .int p2] h Q := by
  refine gw_entry (own := RX6) [some (.ref (ad 0)), some (.int p1), some (.int p2), none, none, none, none] pl_X6 rfl rfl (Nat.le_of_ble_eq_true rfl) rfl (fun X => ?_)
  unfold wp_X6_seeds at hw
  refine gw_iload_n dX6_seeds_0 rfl rfl ?_
  refine gw_iconst dX6_seeds_1 ic_1 ?_
  refine gw_bipush dX6_seeds_2 bp_40 ?_
  refine gw_callSi (As := [.int p1, .int (1 : Int32), .int (40 : Int32)]) (rest := []) rfl (gc_X6_within  hw) mX6_within lmX6_112 rfl rfl ⟨Nat.le_of_ble_eq_true rfl, Nat.le_of_ble_eq_true rfl⟩ (Nat.le_of_ble_eq_true rfl) dX6_seeds_4 (fun r_2 h_1 hw => ?_)
  refine gw_istore_n (ls' := [some (.ref (ad 0)), some (.int p1), some (.int p2), some (.int r_2), none, none, none]) dX6_seeds_7 rfl (Nat.le_of_ble_eq_true rfl) rfl ?_
  refine gw_iload_n dX6_seeds_8 rfl rfl ?_
  refine gw_if_eq (tgt := 18) dX6_seeds_9 (by decide) (fun c_3 => ?_) (fun c_3 => ?_)
  · have hw := hw.1 c_3
    refine gw_aload_n dX6_seeds_18 rfl rfl ?_
    refine gw_callVv (As := []) (rest := []) rfl (gc_X6_begins  hw) mX6_begins lmX6_96 oX6 clX6 rfl rfl ⟨Nat.le_of_ble_eq_true rfl, Nat.le_of_ble_eq_true rfl⟩ (Nat.le_of_ble_eq_true rfl) dX6_seeds_19 (fun h_4 hw => ?_)
    refine gw_iload_n dX6_seeds_22 rfl rfl ?_
    refine gw_istore (ls' := [some (.ref (ad 0)), some (.int p1), some (.int p2), some (.int r_2), some (.int p2), none, none]) dX6_seeds_23 (Nat.le_of_ble_eq_true rfl) rfl ?_
    refine gw_iconst dX6_seeds_25 ic_0 ?_
    refine gw_istore (ls' := [some (.ref (ad 0)), some (.int p1), some (.int p2), some (.int r_2), some (.int p2), some (.int (0 : Int32)), none]) dX6_seeds_26 (Nat.le_of_ble_eq_true rfl) rfl ?_
    refine gw_forget (ls' := [some (.ref (ad 0)), some (.int p1), some (.int p2), none, some (.int p2), some (.int (0 : Int32)), none]) (gw_sub.s (gw_sub.s (gw_sub.s (gw_sub.n (gw_sub.s (gw_sub.s (gw_sub.n gw_sub.z))))))) ?_
    obtain ⟨n_14, hw⟩ := hw
    exact tl_X6_seeds_28   n_14 p2 (0 : Int32) h_4 hw
  · have hw := hw.2 c_3
    refine gw_aload_n dX6_seeds_12 rfl rfl ?_
    refine gw_iload_n dX6_seeds_13 rfl rfl ?_
    refine gw_callVi (As := [.int r_2]) (rest := []) rfl (gc_X6_refuse  hw) mX6_refuse lmX6_120 oX6 clX6 rfl rfl ⟨Nat.le_of_ble_eq_true rfl, Nat.le_of_ble_eq_true rfl⟩ (Nat.le_of_ble_eq_true rfl) dX6_seeds_14 (fun r_16 h_15 hw => ?_)
    exact gw_ireturn (ty := .int) hw rfl rfl dX6_seeds_17
def wk_X6_shut_115 (p1 : Int32) (K36 : Int32 → Int32 → Int32 → gw_H → Prop) (Q : Int32 → gw_H → Prop) : Int32 → Int32 → Int32 → gw_H → Prop :=
  fun x3 x4 x5 h => (K36 x3 x4 (x5 + (1 : Int32)) h)
set_option maxRecDepth 100000 in
set_option maxHeartbeats 4000000 in
theorem tk_X6_shut_115 {l : Launch} {ad : Nat → Nat} {X : gw_X} {p1 : Int32} {K36 : Int32 → Int32 → Int32 → gw_H → Prop} {Q : Int32 → gw_H → Prop}  (hK36 : ∀ (y3 : Int32) (y4 : Int32) (y5 : Int32) (h : gw_H), K36 y3 y4 y5 h → gw_G l vM ad cX6_shut RX6 7 (some .int) 7 158 Q X h 36 [some (.ref (ad 0)), some (.int p1), none, some (.int y3), some (.int y4), some (.int y5), none] []) (x3 : Int32) (x4 : Int32) (x5 : Int32) (h : gw_H) (hw : wk_X6_shut_115 p1 K36 Q x3 x4 x5 h) : gw_G l vM ad cX6_shut RX6 7 (some .int) 7 158 Q X h 115 [some (.ref (ad 0)), some (.int p1), none, some (.int x3), some (.int x4), some (.int x5), none] [] := by
  unfold wk_X6_shut_115 at hw
  refine gw_iinc (ls' := [some (.ref (ad 0)), some (.int p1), none, some (.int x3), some (.int x4), some (.int (x5 + (1 : Int32))), none]) dX6_shut_115 rfl (congrArg (fun z => x5 + z) ic_1) (Nat.le_of_ble_eq_true rfl) rfl ?_
  refine gw_goto (tgt := 36) dX6_shut_118 (by decide) ?_
  exact hK36 x3 x4 (x5 + (1 : Int32)) h hw
def wk_X6_shut_114 (p1 : Int32) (K36 : Int32 → Int32 → Int32 → gw_H → Prop) (Q : Int32 → gw_H → Prop) : Int32 → Int32 → Int32 → gw_H → Prop :=
  fun x4 x5 s0 h => (wk_X6_shut_115 p1 K36 Q s0 x4 x5 h)
set_option maxRecDepth 100000 in
set_option maxHeartbeats 4000000 in
theorem tk_X6_shut_114 {l : Launch} {ad : Nat → Nat} {X : gw_X} {p1 : Int32} {K36 : Int32 → Int32 → Int32 → gw_H → Prop} {Q : Int32 → gw_H → Prop}  (hK36 : ∀ (y3 : Int32) (y4 : Int32) (y5 : Int32) (h : gw_H), K36 y3 y4 y5 h → gw_G l vM ad cX6_shut RX6 7 (some .int) 7 158 Q X h 36 [some (.ref (ad 0)), some (.int p1), none, some (.int y3), some (.int y4), some (.int y5), none] []) (x4 : Int32) (x5 : Int32) (s0 : Int32) (h : gw_H) (hw : wk_X6_shut_114 p1 K36 Q x4 x5 s0 h) : gw_G l vM ad cX6_shut RX6 7 (some .int) 7 158 Q X h 114 [some (.ref (ad 0)), some (.int p1), none, none, some (.int x4), some (.int x5), none] [.int s0] := by
  unfold wk_X6_shut_114 at hw
  refine gw_istore_n (ls' := [some (.ref (ad 0)), some (.int p1), none, some (.int s0), some (.int x4), some (.int x5), none]) dX6_shut_114 rfl (Nat.le_of_ble_eq_true rfl) rfl ?_
  exact tk_X6_shut_115  hK36 s0 x4 x5 h hw
def wk_X6_shut_100 (p1 : Int32) (K36 : Int32 → Int32 → Int32 → gw_H → Prop) (Q : Int32 → gw_H → Prop) : Int32 → Int32 → Int32 → Int32 → gw_H → Prop :=
  fun x3 x5 x6 s0 h => ((x3 ≤ x6 → (wk_X6_shut_114 p1 K36 Q s0 x5 x3 h)) ∧ (¬ x3 ≤ x6 → (wk_X6_shut_114 p1 K36 Q s0 x5 x6 h)))
set_option maxRecDepth 100000 in
set_option maxHeartbeats 4000000 in
theorem tk_X6_shut_100 {l : Launch} {ad : Nat → Nat} {X : gw_X} {p1 : Int32} {K36 : Int32 → Int32 → Int32 → gw_H → Prop} {Q : Int32 → gw_H → Prop}  (hK36 : ∀ (y3 : Int32) (y4 : Int32) (y5 : Int32) (h : gw_H), K36 y3 y4 y5 h → gw_G l vM ad cX6_shut RX6 7 (some .int) 7 158 Q X h 36 [some (.ref (ad 0)), some (.int p1), none, some (.int y3), some (.int y4), some (.int y5), none] []) (x3 : Int32) (x5 : Int32) (x6 : Int32) (s0 : Int32) (h : gw_H) (hw : wk_X6_shut_100 p1 K36 Q x3 x5 x6 s0 h) : gw_G l vM ad cX6_shut RX6 7 (some .int) 7 158 Q X h 100 [some (.ref (ad 0)), some (.int p1), none, some (.int x3), none, some (.int x5), some (.int x6)] [.int s0] := by
  unfold wk_X6_shut_100 at hw
  refine gw_istore (ls' := [some (.ref (ad 0)), some (.int p1), none, some (.int x3), some (.int s0), some (.int x5), some (.int x6)]) dX6_shut_100 (Nat.le_of_ble_eq_true rfl) rfl ?_
  refine gw_iload dX6_shut_102 rfl ?_
  refine gw_iload_n dX6_shut_104 rfl rfl ?_
  refine gw_icmp_ge (tgt := 113) dX6_shut_105 (by decide) (fun c_12 => ?_) (fun c_12 => ?_)
  · have hw := hw.1 c_12
    refine gw_iload_n dX6_shut_113 rfl rfl ?_
    refine gw_forget (ls' := [some (.ref (ad 0)), some (.int p1), none, none, some (.int s0), some (.int x5), none]) (gw_sub.s (gw_sub.s (gw_sub.n (gw_sub.n (gw_sub.s (gw_sub.s (gw_sub.n gw_sub.z))))))) ?_
    exact tk_X6_shut_114  hK36 s0 x5 x3 h hw
  · have hw := hw.2 c_12
    refine gw_iload dX6_shut_108 rfl ?_
    refine gw_goto (tgt := 114) dX6_shut_110 (by decide) ?_
    refine gw_forget (ls' := [some (.ref (ad 0)), some (.int p1), none, none, some (.int s0), some (.int x5), none]) (gw_sub.s (gw_sub.s (gw_sub.n (gw_sub.n (gw_sub.s (gw_sub.s (gw_sub.n gw_sub.z))))))) ?_
    exact tk_X6_shut_114  hK36 s0 x5 x6 h hw
def wl_X6_shut_36 (p1 : Int32)  (Q : Int32 → gw_H → Prop) : Nat → Int32 → Int32 → Int32 → gw_H → Prop
  | 0 => fun _ _ _ _ => False
  | n + 1 => fun x3 x4 x5 h => (((h 2 0) ≤ x5 → Q x4 h) ∧ (¬ (h 2 0) ≤ x5 → ((¬ (((h 2 1) >>> (x5 &&& 31)) &&& (1 : Int32)) = 0 → (wp_X6_haveBehind (gw_up h 2 1 ((h 2 1) &&& (((1 : Int32) <<< (x5 &&& 31)) ^^^ (-1 : Int32)))) (-1 : Int32) p1 (fun r_10 h_9 => ((x3 ≤ r_10 → (wk_X6_shut_100 p1 (wl_X6_shut_36 p1  Q n) Q x3 x5 r_10 x4 h_9)) ∧ (¬ x3 ≤ r_10 → (wk_X6_shut_100 p1 (wl_X6_shut_36 p1  Q n) Q x3 x5 r_10 x5 h_9)))))) ∧ ((((h 2 1) >>> (x5 &&& 31)) &&& (1 : Int32)) = 0 → (wk_X6_shut_115 p1 (wl_X6_shut_36 p1  Q n) Q x3 x4 x5 h)))))
set_option maxRecDepth 100000 in
set_option maxHeartbeats 4000000 in
theorem tl_X6_shut_36 {l : Launch} {ad : Nat → Nat} {X : gw_X} {p1 : Int32}  {Q : Int32 → gw_H → Prop}   : ∀ (n : Nat) (x3 : Int32) (x4 : Int32) (x5 : Int32) (h : gw_H), wl_X6_shut_36 p1  Q n x3 x4 x5 h → gw_G l vM ad cX6_shut RX6 7 (some .int) 7 158 Q X h 36 [some (.ref (ad 0)), some (.int p1), none, some (.int x3), some (.int x4), some (.int x5), none] [] := by
  intro n
  induction n with
  | zero => intro x3 x4 x5 h hw; exact hw.elim
  | succ n ih =>
    intro x3 x4 x5 h hw
    unfold wl_X6_shut_36 at hw
    refine gw_iload dX6_shut_36 rfl ?_
    refine gw_aload_n dX6_shut_38 rfl rfl ?_
    refine gw_getf (k := 1) (v := .ref (ad 2)) oX6 clX6 inUX6 (Nat.le_of_ble_eq_true rfl) rfl lfX6_13 rfl dX6_shut_39 ?_
    refine gw_iconst dX6_shut_42 ic_0 ?_
    refine gw_iald am_2 in_0_73 cl_0 dX6_shut_43 ?_
    refine gw_icmp_ge (tgt := 121) dX6_shut_44 (by decide) (fun c_7 => ?_) (fun c_7 => ?_)
    · have hw := hw.1 c_7
      refine gw_iload dX6_shut_121 rfl ?_
      exact gw_ireturn (ty := .int) hw rfl rfl dX6_shut_123
    · have hw := hw.2 c_7
      refine gw_aload_n dX6_shut_47 rfl rfl ?_
      refine gw_getf (k := 1) (v := .ref (ad 2)) oX6 clX6 inUX6 (Nat.le_of_ble_eq_true rfl) rfl lfX6_13 rfl dX6_shut_48 ?_
      refine gw_iconst dX6_shut_51 ic_1 ?_
      refine gw_iald am_2 in_1_73 cl_1 dX6_shut_52 ?_
      refine gw_iload dX6_shut_53 rfl ?_
      refine gw_ishr dX6_shut_55 ?_
      refine gw_iconst dX6_shut_56 ic_1 ?_
      refine gw_iand dX6_shut_57 ?_
      refine gw_if_ne (tgt := 64) dX6_shut_58 (by decide) (fun c_8 => ?_) (fun c_8 => ?_)
      · have hw := hw.1 c_8
        refine gw_aload_n dX6_shut_64 rfl rfl ?_
        refine gw_getf (k := 1) (v := .ref (ad 2)) oX6 clX6 inUX6 (Nat.le_of_ble_eq_true rfl) rfl lfX6_13 rfl dX6_shut_65 ?_
        refine gw_iconst dX6_shut_68 ic_1 ?_
        refine gw_dup2 dX6_shut_69 rfl rfl ?_
        refine gw_iald am_2 in_1_73 cl_1 dX6_shut_70 ?_
        refine gw_iconst dX6_shut_71 ic_1 ?_
        refine gw_iload dX6_shut_72 rfl ?_
        refine gw_ishl dX6_shut_74 ?_
        refine gw_iconst dX6_shut_75 ic_m1 ?_
        refine gw_ixor dX6_shut_76 ?_
        refine gw_iand dX6_shut_77 ?_
        refine gw_iast am_2 in_1_73 cl_1 dX6_shut_78 ?_
        refine gw_aload_n dX6_shut_79 rfl rfl ?_
        refine gw_iconst dX6_shut_80 ic_m1 ?_
        refine gw_iload_n dX6_shut_81 rfl rfl ?_
        refine gw_callVi (As := [.int (-1 : Int32), .int p1]) (rest := []) rfl (gc_X6_haveBehind  hw) mX6_haveBehind lmX6_167 oX6 clX6 rfl rfl ⟨Nat.le_of_ble_eq_true rfl, Nat.le_of_ble_eq_true rfl⟩ (Nat.le_of_ble_eq_true rfl) dX6_shut_82 (fun r_10 h_9 hw => ?_)
        refine gw_istore (ls' := [some (.ref (ad 0)), some (.int p1), none, some (.int x3), some (.int x4), some (.int x5), some (.int r_10)]) dX6_shut_85 (Nat.le_of_ble_eq_true rfl) rfl ?_
        refine gw_iload dX6_shut_87 rfl ?_
        refine gw_iload_n dX6_shut_89 rfl rfl ?_
        refine gw_icmp_ge (tgt := 98) dX6_shut_90 (by decide) (fun c_11 => ?_) (fun c_11 => ?_)
        · have hw := hw.1 c_11
          refine gw_iload dX6_shut_98 rfl ?_
          refine gw_forget (ls' := [some (.ref (ad 0)), some (.int p1), none, some (.int x3), none, some (.int x5), some (.int r_10)]) (gw_sub.s (gw_sub.s (gw_sub.n (gw_sub.s (gw_sub.n (gw_sub.s (gw_sub.s gw_sub.z))))))) ?_
          exact tk_X6_shut_100   ih x3 x5 r_10 x4 h_9 hw
        · have hw := hw.2 c_11
          refine gw_iload dX6_shut_93 rfl ?_
          refine gw_goto (tgt := 100) dX6_shut_95 (by decide) ?_
          refine gw_forget (ls' := [some (.ref (ad 0)), some (.int p1), none, some (.int x3), none, some (.int x5), some (.int r_10)]) (gw_sub.s (gw_sub.s (gw_sub.n (gw_sub.s (gw_sub.n (gw_sub.s (gw_sub.s gw_sub.z))))))) ?_
          exact tk_X6_shut_100   ih x3 x5 r_10 x5 h_9 hw
      · have hw := hw.2 c_8
        refine gw_goto (tgt := 115) dX6_shut_61 (by decide) ?_
        exact tk_X6_shut_115   ih x3 x4 x5 h hw
def wp_X6_shut (h : gw_H) (p1 : Int32) (Q : Int32 → gw_H → Prop) : Prop :=
  (wp_X6_within h p1 (0 : Int32) (60 : Int32) (fun r_2 h_1 => ((r_2 = 0 → (wp_X6_begins h_1  (fun _ h_4 => (wp_X6_haveBehind h_4 (-1 : Int32) p1 (fun r_6 h_5 => (∃ n_13 : Nat, wl_X6_shut_36 p1  Q n_13 r_6 (-9 : Int32) (0 : Int32) h_5)))))) ∧ (¬ r_2 = 0 → (wp_X6_refuse h_1 r_2 (fun r_15 h_14 => Q r_15 h_14))))))
set_option maxRecDepth 100000 in
set_option maxHeartbeats 4000000 in
theorem gc_X6_shut {l : Launch} {ad : Nat → Nat} {h : gw_H} {p1 : Int32} {Q : Int32 → gw_H → Prop}  (hw : wp_X6_shut h p1 Q) : gw_C l yX6_shut cX6_shut 7 (some .int) 7 158 vM ad [.ref (ad 0), .int p1] h Q := by
  refine gw_entry (own := RX6) [some (.ref (ad 0)), some (.int p1), none, none, none, none, none] pl_X6 rfl rfl (Nat.le_of_ble_eq_true rfl) rfl (fun X => ?_)
  unfold wp_X6_shut at hw
  refine gw_iload_n dX6_shut_0 rfl rfl ?_
  refine gw_iconst dX6_shut_1 ic_0 ?_
  refine gw_bipush dX6_shut_2 bp_60 ?_
  refine gw_callSi (As := [.int p1, .int (0 : Int32), .int (60 : Int32)]) (rest := []) rfl (gc_X6_within  hw) mX6_within lmX6_112 rfl rfl ⟨Nat.le_of_ble_eq_true rfl, Nat.le_of_ble_eq_true rfl⟩ (Nat.le_of_ble_eq_true rfl) dX6_shut_4 (fun r_2 h_1 hw => ?_)
  refine gw_istore_n (ls' := [some (.ref (ad 0)), some (.int p1), some (.int r_2), none, none, none, none]) dX6_shut_7 rfl (Nat.le_of_ble_eq_true rfl) rfl ?_
  refine gw_iload_n dX6_shut_8 rfl rfl ?_
  refine gw_if_eq (tgt := 18) dX6_shut_9 (by decide) (fun c_3 => ?_) (fun c_3 => ?_)
  · have hw := hw.1 c_3
    refine gw_aload_n dX6_shut_18 rfl rfl ?_
    refine gw_callVv (As := []) (rest := []) rfl (gc_X6_begins  hw) mX6_begins lmX6_96 oX6 clX6 rfl rfl ⟨Nat.le_of_ble_eq_true rfl, Nat.le_of_ble_eq_true rfl⟩ (Nat.le_of_ble_eq_true rfl) dX6_shut_19 (fun h_4 hw => ?_)
    refine gw_aload_n dX6_shut_22 rfl rfl ?_
    refine gw_iconst dX6_shut_23 ic_m1 ?_
    refine gw_iload_n dX6_shut_24 rfl rfl ?_
    refine gw_callVi (As := [.int (-1 : Int32), .int p1]) (rest := []) rfl (gc_X6_haveBehind  hw) mX6_haveBehind lmX6_167 oX6 clX6 rfl rfl ⟨Nat.le_of_ble_eq_true rfl, Nat.le_of_ble_eq_true rfl⟩ (Nat.le_of_ble_eq_true rfl) dX6_shut_25 (fun r_6 h_5 hw => ?_)
    refine gw_istore_n (ls' := [some (.ref (ad 0)), some (.int p1), some (.int r_2), some (.int r_6), none, none, none]) dX6_shut_28 rfl (Nat.le_of_ble_eq_true rfl) rfl ?_
    refine gw_bipush dX6_shut_29 bp_m9 ?_
    refine gw_istore (ls' := [some (.ref (ad 0)), some (.int p1), some (.int r_2), some (.int r_6), some (.int (-9 : Int32)), none, none]) dX6_shut_31 (Nat.le_of_ble_eq_true rfl) rfl ?_
    refine gw_iconst dX6_shut_33 ic_0 ?_
    refine gw_istore (ls' := [some (.ref (ad 0)), some (.int p1), some (.int r_2), some (.int r_6), some (.int (-9 : Int32)), some (.int (0 : Int32)), none]) dX6_shut_34 (Nat.le_of_ble_eq_true rfl) rfl ?_
    refine gw_forget (ls' := [some (.ref (ad 0)), some (.int p1), none, some (.int r_6), some (.int (-9 : Int32)), some (.int (0 : Int32)), none]) (gw_sub.s (gw_sub.s (gw_sub.n (gw_sub.s (gw_sub.s (gw_sub.s (gw_sub.n gw_sub.z))))))) ?_
    obtain ⟨n_13, hw⟩ := hw
    exact tl_X6_shut_36   n_13 r_6 (-9 : Int32) (0 : Int32) h_5 hw
  · have hw := hw.2 c_3
    refine gw_aload_n dX6_shut_12 rfl rfl ?_
    refine gw_iload_n dX6_shut_13 rfl rfl ?_
    refine gw_callVi (As := [.int r_2]) (rest := []) rfl (gc_X6_refuse  hw) mX6_refuse lmX6_120 oX6 clX6 rfl rfl ⟨Nat.le_of_ble_eq_true rfl, Nat.le_of_ble_eq_true rfl⟩ (Nat.le_of_ble_eq_true rfl) dX6_shut_14 (fun r_15 h_14 hw => ?_)
    exact gw_ireturn (ty := .int) hw rfl rfl dX6_shut_17
def wp_X6_song (h : gw_H) (p1 : Int32) (p2 : Int32) (Q : Int32 → gw_H → Prop) : Prop :=
  (wp_X6_isSong h p1 (fun r_2 h_1 => ((¬ r_2 = 0 → (wp_X6_isIn h_1 p2 (3 : Int32) (fun r_5 h_4 => ((r_5 = 0 → ((¬ p2 = (3 : Int32) → ((¬ p2 = (4 : Int32) → (wp_X6_refuse h_4 (-2 : Int32) (fun r_10 h_9 => Q r_10 h_9))) ∧ (p2 = (4 : Int32) → (wp_X6_haveIt h_4 p1 (fun r_12 h_11 => Q r_12 h_11))))) ∧ (p2 = (3 : Int32) → (wp_X6_fresh h_4 p1 (fun r_14 h_13 => Q r_14 h_13))))) ∧ (¬ r_5 = 0 → (wp_X6_of h_4 p1 p2 (fun r_16 h_15 => Q r_16 h_15))))))) ∧ (r_2 = 0 → (wp_X6_refuse h_1 (-1 : Int32) (fun r_18 h_17 => Q r_18 h_17))))))
set_option maxRecDepth 100000 in
set_option maxHeartbeats 4000000 in
theorem gc_X6_song {l : Launch} {ad : Nat → Nat} {h : gw_H} {p1 : Int32} {p2 : Int32} {Q : Int32 → gw_H → Prop}  (hw : wp_X6_song h p1 p2 Q) : gw_C l yX6_song cX6_song 3 (some .int) 2 45 vM ad [.ref (ad 0), .int p1, .int p2] h Q := by
  refine gw_entry (own := RX6) [some (.ref (ad 0)), some (.int p1), some (.int p2)] pl_X6 rfl rfl (Nat.le_of_ble_eq_true rfl) rfl (fun X => ?_)
  unfold wp_X6_song at hw
  refine gw_aload_n dX6_song_0 rfl rfl ?_
  refine gw_iload_n dX6_song_1 rfl rfl ?_
  refine gw_callVi (As := [.int p1]) (rest := []) rfl (gc_X6_isSong  hw) mX6_isSong lmX6_147 oX6 clX6 rfl rfl ⟨Nat.le_of_ble_eq_true rfl, Nat.le_of_ble_eq_true rfl⟩ (Nat.le_of_ble_eq_true rfl) dX6_song_2 (fun r_2 h_1 hw => ?_)
  refine gw_if_ne (tgt := 14) dX6_song_5 (by decide) (fun c_3 => ?_) (fun c_3 => ?_)
  · have hw := hw.1 c_3
    refine gw_iload_n dX6_song_14 rfl rfl ?_
    refine gw_iconst dX6_song_15 ic_3 ?_
    refine gw_callSi (As := [.int p2, .int (3 : Int32)]) (rest := []) rfl (gc_X6_isIn  hw) mX6_isIn lmX6_53 rfl rfl ⟨Nat.le_of_ble_eq_true rfl, Nat.le_of_ble_eq_true rfl⟩ (Nat.le_of_ble_eq_true rfl) dX6_song_16 (fun r_5 h_4 hw => ?_)
    refine gw_if_eq (tgt := 31) dX6_song_19 (by decide) (fun c_6 => ?_) (fun c_6 => ?_)
    · have hw := hw.1 c_6
      refine gw_iload_n dX6_song_31 rfl rfl ?_
      refine gw_iconst dX6_song_32 ic_3 ?_
      refine gw_icmp_ne (tgt := 44) dX6_song_33 (by decide) (fun c_7 => ?_) (fun c_7 => ?_)
      · have hw := hw.1 c_7
        refine gw_iload_n dX6_song_44 rfl rfl ?_
        refine gw_iconst dX6_song_45 ic_4 ?_
        refine gw_icmp_ne (tgt := 57) dX6_song_46 (by decide) (fun c_8 => ?_) (fun c_8 => ?_)
        · have hw := hw.1 c_8
          refine gw_aload_n dX6_song_57 rfl rfl ?_
          refine gw_bipush dX6_song_58 bp_m2 ?_
          refine gw_callVi (As := [.int (-2 : Int32)]) (rest := []) rfl (gc_X6_refuse  hw) mX6_refuse lmX6_120 oX6 clX6 rfl rfl ⟨Nat.le_of_ble_eq_true rfl, Nat.le_of_ble_eq_true rfl⟩ (Nat.le_of_ble_eq_true rfl) dX6_song_60 (fun r_10 h_9 hw => ?_)
          exact gw_ireturn (ty := .int) hw rfl rfl dX6_song_63
        · have hw := hw.2 c_8
          refine gw_aload_n dX6_song_49 rfl rfl ?_
          refine gw_iload_n dX6_song_50 rfl rfl ?_
          refine gw_callVi (As := [.int p1]) (rest := []) rfl (gc_X6_haveIt  hw) mX6_haveIt lmX6_106 oX6 clX6 rfl rfl ⟨Nat.le_of_ble_eq_true rfl, Nat.le_of_ble_eq_true rfl⟩ (Nat.le_of_ble_eq_true rfl) dX6_song_51 (fun r_12 h_11 hw => ?_)
          refine gw_goto (tgt := 63) dX6_song_54 (by decide) ?_
          exact gw_ireturn (ty := .int) hw rfl rfl dX6_song_63
      · have hw := hw.2 c_7
        refine gw_aload_n dX6_song_36 rfl rfl ?_
        refine gw_iload_n dX6_song_37 rfl rfl ?_
        refine gw_callVi (As := [.int p1]) (rest := []) rfl (gc_X6_fresh  hw) mX6_fresh lmX6_68 oX6 clX6 rfl rfl ⟨Nat.le_of_ble_eq_true rfl, Nat.le_of_ble_eq_true rfl⟩ (Nat.le_of_ble_eq_true rfl) dX6_song_38 (fun r_14 h_13 hw => ?_)
        refine gw_goto (tgt := 63) dX6_song_41 (by decide) ?_
        exact gw_ireturn (ty := .int) hw rfl rfl dX6_song_63
    · have hw := hw.2 c_6
      refine gw_aload_n dX6_song_22 rfl rfl ?_
      refine gw_iload_n dX6_song_23 rfl rfl ?_
      refine gw_iload_n dX6_song_24 rfl rfl ?_
      refine gw_callVi (As := [.int p1, .int p2]) (rest := []) rfl (gc_X6_of  hw) mX6_of lmX6_57 oX6 clX6 rfl rfl ⟨Nat.le_of_ble_eq_true rfl, Nat.le_of_ble_eq_true rfl⟩ (Nat.le_of_ble_eq_true rfl) dX6_song_25 (fun r_16 h_15 hw => ?_)
      refine gw_goto (tgt := 63) dX6_song_28 (by decide) ?_
      exact gw_ireturn (ty := .int) hw rfl rfl dX6_song_63
  · have hw := hw.2 c_3
    refine gw_aload_n dX6_song_8 rfl rfl ?_
    refine gw_iconst dX6_song_9 ic_m1 ?_
    refine gw_callVi (As := [.int (-1 : Int32)]) (rest := []) rfl (gc_X6_refuse  hw) mX6_refuse lmX6_120 oX6 clX6 rfl rfl ⟨Nat.le_of_ble_eq_true rfl, Nat.le_of_ble_eq_true rfl⟩ (Nat.le_of_ble_eq_true rfl) dX6_song_10 (fun r_18 h_17 hw => ?_)
    exact gw_ireturn (ty := .int) hw rfl rfl dX6_song_13
def wk_X6_still_45   (Q : Int32 → gw_H → Prop) : Int32 → gw_H → Prop :=
  fun x1 h => (wp_X6_ends h  (fun _ h_3 => Q x1 h_3))
set_option maxRecDepth 100000 in
set_option maxHeartbeats 4000000 in
theorem tk_X6_still_45 {l : Launch} {ad : Nat → Nat} {X : gw_X}   {Q : Int32 → gw_H → Prop}   (x1 : Int32) (h : gw_H) (hw : wk_X6_still_45   Q x1 h) : gw_G l vM ad cX6_still RX6 3 (some .int) 5 113 Q X h 45 [some (.ref (ad 0)), some (.int x1), none] [] := by
  unfold wk_X6_still_45 at hw
  refine gw_aload_n dX6_still_45 rfl rfl ?_
  refine gw_callVv (As := []) (rest := []) rfl (gc_X6_ends  hw) mX6_ends lmX6_109 oX6 clX6 rfl rfl ⟨Nat.le_of_ble_eq_true rfl, Nat.le_of_ble_eq_true rfl⟩ (Nat.le_of_ble_eq_true rfl) dX6_still_46 (fun h_3 hw => ?_)
  refine gw_iload_n dX6_still_49 rfl rfl ?_
  exact gw_ireturn (ty := .int) hw rfl rfl dX6_still_50
def wk_X6_still_33  (K9 : Int32 → Int32 → gw_H → Prop) (Q : Int32 → gw_H → Prop) : Int32 → Int32 → gw_H → Prop :=
  fun x2 s0 h => (wp_X6_goes h  (fun r_9 h_8 => (K9 s0 (x2 + (1 : Int32)) h_8)))
set_option maxRecDepth 100000 in
set_option maxHeartbeats 4000000 in
theorem tk_X6_still_33 {l : Launch} {ad : Nat → Nat} {X : gw_X}  {K9 : Int32 → Int32 → gw_H → Prop} {Q : Int32 → gw_H → Prop}  (hK9 : ∀ (y1 : Int32) (y2 : Int32) (h : gw_H), K9 y1 y2 h → gw_G l vM ad cX6_still RX6 3 (some .int) 5 113 Q X h 9 [some (.ref (ad 0)), some (.int y1), some (.int y2)] []) (x2 : Int32) (s0 : Int32) (h : gw_H) (hw : wk_X6_still_33  K9 Q x2 s0 h) : gw_G l vM ad cX6_still RX6 3 (some .int) 5 113 Q X h 33 [some (.ref (ad 0)), none, some (.int x2)] [.int s0] := by
  unfold wk_X6_still_33 at hw
  refine gw_istore_n (ls' := [some (.ref (ad 0)), some (.int s0), some (.int x2)]) dX6_still_33 rfl (Nat.le_of_ble_eq_true rfl) rfl ?_
  refine gw_aload_n dX6_still_34 rfl rfl ?_
  refine gw_callVi (As := []) (rest := []) rfl (gc_X6_goes  hw) mX6_goes lmX6_99 oX6 clX6 rfl rfl ⟨Nat.le_of_ble_eq_true rfl, Nat.le_of_ble_eq_true rfl⟩ (Nat.le_of_ble_eq_true rfl) dX6_still_35 (fun r_9 h_8 hw => ?_)
  refine gw_pop dX6_still_38 rfl ?_
  refine gw_iinc (ls' := [some (.ref (ad 0)), some (.int s0), some (.int (x2 + (1 : Int32)))]) dX6_still_39 rfl (congrArg (fun z => x2 + z) ic_1) (Nat.le_of_ble_eq_true rfl) rfl ?_
  refine gw_goto (tgt := 9) dX6_still_42 (by decide) ?_
  exact hK9 s0 (x2 + (1 : Int32)) h_8 hw
def wl_X6_still_9   (Q : Int32 → gw_H → Prop) : Nat → Int32 → Int32 → gw_H → Prop
  | 0 => fun _ _ _ => False
  | n + 1 => fun x1 x2 h => (((60 : Int32) < x2 → (wk_X6_still_45   Q x1 h)) ∧ (¬ (60 : Int32) < x2 → ((0 ≤ x1 → (wk_X6_still_45   Q x1 h)) ∧ (¬ 0 ≤ x1 → (wp_X6_haveIt h (-1 : Int32) (fun r_6 h_5 => ((¬ r_6 = 0 → (wk_X6_still_33  (wl_X6_still_9   Q n) Q x2 (-9 : Int32) h_5)) ∧ (r_6 = 0 → (wk_X6_still_33  (wl_X6_still_9   Q n) Q x2 x2 h_5)))))))))
set_option maxRecDepth 100000 in
set_option maxHeartbeats 4000000 in
theorem tl_X6_still_9 {l : Launch} {ad : Nat → Nat} {X : gw_X}   {Q : Int32 → gw_H → Prop}   : ∀ (n : Nat) (x1 : Int32) (x2 : Int32) (h : gw_H), wl_X6_still_9   Q n x1 x2 h → gw_G l vM ad cX6_still RX6 3 (some .int) 5 113 Q X h 9 [some (.ref (ad 0)), some (.int x1), some (.int x2)] [] := by
  intro n
  induction n with
  | zero => intro x1 x2 h hw; exact hw.elim
  | succ n ih =>
    intro x1 x2 h hw
    unfold wl_X6_still_9 at hw
    refine gw_iload_n dX6_still_9 rfl rfl ?_
    refine gw_bipush dX6_still_10 bp_60 ?_
    refine gw_icmp_gt (tgt := 45) dX6_still_12 (by decide) (fun c_2 => ?_) (fun c_2 => ?_)
    · have hw := hw.1 c_2
      refine gw_forget (ls' := [some (.ref (ad 0)), some (.int x1), none]) (gw_sub.s (gw_sub.s (gw_sub.n gw_sub.z))) ?_
      exact tk_X6_still_45   x1 h hw
    · have hw := hw.2 c_2
      refine gw_iload_n dX6_still_15 rfl rfl ?_
      refine gw_if_ge (tgt := 45) dX6_still_16 (by decide) (fun c_4 => ?_) (fun c_4 => ?_)
      · have hw := hw.1 c_4
        refine gw_forget (ls' := [some (.ref (ad 0)), some (.int x1), none]) (gw_sub.s (gw_sub.s (gw_sub.n gw_sub.z))) ?_
        exact tk_X6_still_45   x1 h hw
      · have hw := hw.2 c_4
        refine gw_aload_n dX6_still_19 rfl rfl ?_
        refine gw_iconst dX6_still_20 ic_m1 ?_
        refine gw_callVi (As := [.int (-1 : Int32)]) (rest := []) rfl (gc_X6_haveIt  hw) mX6_haveIt lmX6_106 oX6 clX6 rfl rfl ⟨Nat.le_of_ble_eq_true rfl, Nat.le_of_ble_eq_true rfl⟩ (Nat.le_of_ble_eq_true rfl) dX6_still_21 (fun r_6 h_5 hw => ?_)
        refine gw_if_ne (tgt := 31) dX6_still_24 (by decide) (fun c_7 => ?_) (fun c_7 => ?_)
        · have hw := hw.1 c_7
          refine gw_bipush dX6_still_31 bp_m9 ?_
          refine gw_forget (ls' := [some (.ref (ad 0)), none, some (.int x2)]) (gw_sub.s (gw_sub.n (gw_sub.s gw_sub.z))) ?_
          exact tk_X6_still_33   ih x2 (-9 : Int32) h_5 hw
        · have hw := hw.2 c_7
          refine gw_iload_n dX6_still_27 rfl rfl ?_
          refine gw_goto (tgt := 33) dX6_still_28 (by decide) ?_
          refine gw_forget (ls' := [some (.ref (ad 0)), none, some (.int x2)]) (gw_sub.s (gw_sub.n (gw_sub.s gw_sub.z))) ?_
          exact tk_X6_still_33   ih x2 x2 h_5 hw
def wp_X6_still (h : gw_H)  (Q : Int32 → gw_H → Prop) : Prop :=
  (wp_X6_begins h  (fun _ h_1 => (∃ n_10 : Nat, wl_X6_still_9   Q n_10 (-9 : Int32) (0 : Int32) h_1)))
set_option maxRecDepth 100000 in
set_option maxHeartbeats 4000000 in
theorem gc_X6_still {l : Launch} {ad : Nat → Nat} {h : gw_H}  {Q : Int32 → gw_H → Prop}  (hw : wp_X6_still h  Q) : gw_C l yX6_still cX6_still 3 (some .int) 5 113 vM ad [.ref (ad 0)] h Q := by
  refine gw_entry (own := RX6) [some (.ref (ad 0)), none, none] pl_X6 rfl rfl (Nat.le_of_ble_eq_true rfl) rfl (fun X => ?_)
  unfold wp_X6_still at hw
  refine gw_aload_n dX6_still_0 rfl rfl ?_
  refine gw_callVv (As := []) (rest := []) rfl (gc_X6_begins  hw) mX6_begins lmX6_96 oX6 clX6 rfl rfl ⟨Nat.le_of_ble_eq_true rfl, Nat.le_of_ble_eq_true rfl⟩ (Nat.le_of_ble_eq_true rfl) dX6_still_1 (fun h_1 hw => ?_)
  refine gw_bipush dX6_still_4 bp_m9 ?_
  refine gw_istore_n (ls' := [some (.ref (ad 0)), some (.int (-9 : Int32)), none]) dX6_still_6 rfl (Nat.le_of_ble_eq_true rfl) rfl ?_
  refine gw_iconst dX6_still_7 ic_0 ?_
  refine gw_istore_n (ls' := [some (.ref (ad 0)), some (.int (-9 : Int32)), some (.int (0 : Int32))]) dX6_still_8 rfl (Nat.le_of_ble_eq_true rfl) rfl ?_
  obtain ⟨n_10, hw⟩ := hw
  exact tl_X6_still_9   n_10 (-9 : Int32) (0 : Int32) h_1 hw
def wk_X6_takes__16 (p1 : Int32) (p2 : Int32)  (Q : Int32 → gw_H → Prop) : gw_H → Prop :=
  fun h => (wp_X6_refuse h (-1 : Int32) (fun r_5 h_4 => Q r_5 h_4))
set_option maxRecDepth 100000 in
set_option maxHeartbeats 4000000 in
theorem tk_X6_takes__16 {l : Launch} {ad : Nat → Nat} {X : gw_X} {p1 : Int32} {p2 : Int32}  {Q : Int32 → gw_H → Prop}    (h : gw_H) (hw : wk_X6_takes__16 p1 p2  Q h) : gw_G l vM ad cX6_takes_ RX6 5 (some .int) 5 113 Q X h 16 [some (.ref (ad 0)), some (.int p1), some (.int p2), none, none] [] := by
  unfold wk_X6_takes__16 at hw
  refine gw_aload_n dX6_takes__16 rfl rfl ?_
  refine gw_iconst dX6_takes__17 ic_m1 ?_
  refine gw_callVi (As := [.int (-1 : Int32)]) (rest := []) rfl (gc_X6_refuse  hw) mX6_refuse lmX6_120 oX6 clX6 rfl rfl ⟨Nat.le_of_ble_eq_true rfl, Nat.le_of_ble_eq_true rfl⟩ (Nat.le_of_ble_eq_true rfl) dX6_takes__18 (fun r_5 h_4 hw => ?_)
  exact gw_ireturn (ty := .int) hw rfl rfl dX6_takes__21
def wk_X6_takes__72 (p1 : Int32) (p2 : Int32)  (Q : Int32 → gw_H → Prop) : Int32 → gw_H → Prop :=
  fun x3 h => (wp_X6_ends h  (fun _ h_11 => Q x3 h_11))
set_option maxRecDepth 100000 in
set_option maxHeartbeats 4000000 in
theorem tk_X6_takes__72 {l : Launch} {ad : Nat → Nat} {X : gw_X} {p1 : Int32} {p2 : Int32}  {Q : Int32 → gw_H → Prop}   (x3 : Int32) (h : gw_H) (hw : wk_X6_takes__72 p1 p2  Q x3 h) : gw_G l vM ad cX6_takes_ RX6 5 (some .int) 5 113 Q X h 72 [some (.ref (ad 0)), some (.int p1), some (.int p2), some (.int x3), none] [] := by
  unfold wk_X6_takes__72 at hw
  refine gw_aload_n dX6_takes__72 rfl rfl ?_
  refine gw_callVv (As := []) (rest := []) rfl (gc_X6_ends  hw) mX6_ends lmX6_109 oX6 clX6 rfl rfl ⟨Nat.le_of_ble_eq_true rfl, Nat.le_of_ble_eq_true rfl⟩ (Nat.le_of_ble_eq_true rfl) dX6_takes__73 (fun h_11 hw => ?_)
  refine gw_iload_n dX6_takes__76 rfl rfl ?_
  exact gw_ireturn (ty := .int) hw rfl rfl dX6_takes__77
def wk_X6_takes__60 (p1 : Int32) (p2 : Int32) (K32 : Int32 → Int32 → gw_H → Prop) (Q : Int32 → gw_H → Prop) : Int32 → Int32 → gw_H → Prop :=
  fun x4 s0 h => (wp_X6_goes h  (fun r_17 h_16 => (K32 s0 (x4 + (1 : Int32)) h_16)))
set_option maxRecDepth 100000 in
set_option maxHeartbeats 4000000 in
theorem tk_X6_takes__60 {l : Launch} {ad : Nat → Nat} {X : gw_X} {p1 : Int32} {p2 : Int32} {K32 : Int32 → Int32 → gw_H → Prop} {Q : Int32 → gw_H → Prop}  (hK32 : ∀ (y3 : Int32) (y4 : Int32) (h : gw_H), K32 y3 y4 h → gw_G l vM ad cX6_takes_ RX6 5 (some .int) 5 113 Q X h 32 [some (.ref (ad 0)), some (.int p1), some (.int p2), some (.int y3), some (.int y4)] []) (x4 : Int32) (s0 : Int32) (h : gw_H) (hw : wk_X6_takes__60 p1 p2 K32 Q x4 s0 h) : gw_G l vM ad cX6_takes_ RX6 5 (some .int) 5 113 Q X h 60 [some (.ref (ad 0)), some (.int p1), some (.int p2), none, some (.int x4)] [.int s0] := by
  unfold wk_X6_takes__60 at hw
  refine gw_istore_n (ls' := [some (.ref (ad 0)), some (.int p1), some (.int p2), some (.int s0), some (.int x4)]) dX6_takes__60 rfl (Nat.le_of_ble_eq_true rfl) rfl ?_
  refine gw_aload_n dX6_takes__61 rfl rfl ?_
  refine gw_callVi (As := []) (rest := []) rfl (gc_X6_goes  hw) mX6_goes lmX6_99 oX6 clX6 rfl rfl ⟨Nat.le_of_ble_eq_true rfl, Nat.le_of_ble_eq_true rfl⟩ (Nat.le_of_ble_eq_true rfl) dX6_takes__62 (fun r_17 h_16 hw => ?_)
  refine gw_pop dX6_takes__65 rfl ?_
  refine gw_iinc (ls' := [some (.ref (ad 0)), some (.int p1), some (.int p2), some (.int s0), some (.int (x4 + (1 : Int32)))]) dX6_takes__66 rfl (congrArg (fun z => x4 + z) ic_1) (Nat.le_of_ble_eq_true rfl) rfl ?_
  refine gw_goto (tgt := 32) dX6_takes__69 (by decide) ?_
  exact hK32 s0 (x4 + (1 : Int32)) h_16 hw
def wl_X6_takes__32 (p1 : Int32) (p2 : Int32)  (Q : Int32 → gw_H → Prop) : Nat → Int32 → Int32 → gw_H → Prop
  | 0 => fun _ _ _ => False
  | n + 1 => fun x3 x4 h => (((60 : Int32) < x4 → (wk_X6_takes__72 p1 p2  Q x3 h)) ∧ (¬ (60 : Int32) < x4 → ((0 ≤ x3 → (wk_X6_takes__72 p1 p2  Q x3 h)) ∧ (¬ 0 ≤ x3 → (wp_X6_at h p1 (3 : Int32) (fun r_14 h_13 => ((¬ r_14 = p2 → (wk_X6_takes__60 p1 p2 (wl_X6_takes__32 p1 p2  Q n) Q x4 (-9 : Int32) h_13)) ∧ (r_14 = p2 → (wk_X6_takes__60 p1 p2 (wl_X6_takes__32 p1 p2  Q n) Q x4 x4 h_13)))))))))
set_option maxRecDepth 100000 in
set_option maxHeartbeats 4000000 in
theorem tl_X6_takes__32 {l : Launch} {ad : Nat → Nat} {X : gw_X} {p1 : Int32} {p2 : Int32}  {Q : Int32 → gw_H → Prop}   : ∀ (n : Nat) (x3 : Int32) (x4 : Int32) (h : gw_H), wl_X6_takes__32 p1 p2  Q n x3 x4 h → gw_G l vM ad cX6_takes_ RX6 5 (some .int) 5 113 Q X h 32 [some (.ref (ad 0)), some (.int p1), some (.int p2), some (.int x3), some (.int x4)] [] := by
  intro n
  induction n with
  | zero => intro x3 x4 h hw; exact hw.elim
  | succ n ih =>
    intro x3 x4 h hw
    unfold wl_X6_takes__32 at hw
    refine gw_iload dX6_takes__32 rfl ?_
    refine gw_bipush dX6_takes__34 bp_60 ?_
    refine gw_icmp_gt (tgt := 72) dX6_takes__36 (by decide) (fun c_10 => ?_) (fun c_10 => ?_)
    · have hw := hw.1 c_10
      refine gw_forget (ls' := [some (.ref (ad 0)), some (.int p1), some (.int p2), some (.int x3), none]) (gw_sub.s (gw_sub.s (gw_sub.s (gw_sub.s (gw_sub.n gw_sub.z))))) ?_
      exact tk_X6_takes__72   x3 h hw
    · have hw := hw.2 c_10
      refine gw_iload_n dX6_takes__39 rfl rfl ?_
      refine gw_if_ge (tgt := 72) dX6_takes__40 (by decide) (fun c_12 => ?_) (fun c_12 => ?_)
      · have hw := hw.1 c_12
        refine gw_forget (ls' := [some (.ref (ad 0)), some (.int p1), some (.int p2), some (.int x3), none]) (gw_sub.s (gw_sub.s (gw_sub.s (gw_sub.s (gw_sub.n gw_sub.z))))) ?_
        exact tk_X6_takes__72   x3 h hw
      · have hw := hw.2 c_12
        refine gw_aload_n dX6_takes__43 rfl rfl ?_
        refine gw_iload_n dX6_takes__44 rfl rfl ?_
        refine gw_iconst dX6_takes__45 ic_3 ?_
        refine gw_callVi (As := [.int p1, .int (3 : Int32)]) (rest := []) rfl (gc_X6_at  hw) mX6_at lmX6_61 oX6 clX6 rfl rfl ⟨Nat.le_of_ble_eq_true rfl, Nat.le_of_ble_eq_true rfl⟩ (Nat.le_of_ble_eq_true rfl) dX6_takes__46 (fun r_14 h_13 hw => ?_)
        refine gw_iload_n dX6_takes__49 rfl rfl ?_
        refine gw_icmp_ne (tgt := 58) dX6_takes__50 (by decide) (fun c_15 => ?_) (fun c_15 => ?_)
        · have hw := hw.1 c_15
          refine gw_bipush dX6_takes__58 bp_m9 ?_
          refine gw_forget (ls' := [some (.ref (ad 0)), some (.int p1), some (.int p2), none, some (.int x4)]) (gw_sub.s (gw_sub.s (gw_sub.s (gw_sub.n (gw_sub.s gw_sub.z))))) ?_
          exact tk_X6_takes__60   ih x4 (-9 : Int32) h_13 hw
        · have hw := hw.2 c_15
          refine gw_iload dX6_takes__53 rfl ?_
          refine gw_goto (tgt := 60) dX6_takes__55 (by decide) ?_
          refine gw_forget (ls' := [some (.ref (ad 0)), some (.int p1), some (.int p2), none, some (.int x4)]) (gw_sub.s (gw_sub.s (gw_sub.s (gw_sub.n (gw_sub.s gw_sub.z))))) ?_
          exact tk_X6_takes__60   ih x4 x4 h_13 hw
def wp_X6_takes_ (h : gw_H) (p1 : Int32) (p2 : Int32) (Q : Int32 → gw_H → Prop) : Prop :=
  (wp_X6_isHead h p1 (fun r_2 h_1 => ((r_2 = 0 → (wk_X6_takes__16 p1 p2  Q h_1)) ∧ (¬ r_2 = 0 → (wp_X6_isSong h_1 p2 (fun r_7 h_6 => ((¬ r_7 = 0 → (wp_X6_begins h_6  (fun _ h_9 => (∃ n_18 : Nat, wl_X6_takes__32 p1 p2  Q n_18 (-9 : Int32) (0 : Int32) h_9)))) ∧ (r_7 = 0 → (wk_X6_takes__16 p1 p2  Q h_6)))))))))
set_option maxRecDepth 100000 in
set_option maxHeartbeats 4000000 in
theorem gc_X6_takes_ {l : Launch} {ad : Nat → Nat} {h : gw_H} {p1 : Int32} {p2 : Int32} {Q : Int32 → gw_H → Prop}  (hw : wp_X6_takes_ h p1 p2 Q) : gw_C l yX6_takes_ cX6_takes_ 5 (some .int) 5 113 vM ad [.ref (ad 0), .int p1, .int p2] h Q := by
  refine gw_entry (own := RX6) [some (.ref (ad 0)), some (.int p1), some (.int p2), none, none] pl_X6 rfl rfl (Nat.le_of_ble_eq_true rfl) rfl (fun X => ?_)
  unfold wp_X6_takes_ at hw
  refine gw_aload_n dX6_takes__0 rfl rfl ?_
  refine gw_iload_n dX6_takes__1 rfl rfl ?_
  refine gw_callVi (As := [.int p1]) (rest := []) rfl (gc_X6_isHead  hw) mX6_isHead lmX6_144 oX6 clX6 rfl rfl ⟨Nat.le_of_ble_eq_true rfl, Nat.le_of_ble_eq_true rfl⟩ (Nat.le_of_ble_eq_true rfl) dX6_takes__2 (fun r_2 h_1 hw => ?_)
  refine gw_if_eq (tgt := 16) dX6_takes__5 (by decide) (fun c_3 => ?_) (fun c_3 => ?_)
  · have hw := hw.1 c_3
    exact tk_X6_takes__16   h_1 hw
  · have hw := hw.2 c_3
    refine gw_aload_n dX6_takes__8 rfl rfl ?_
    refine gw_iload_n dX6_takes__9 rfl rfl ?_
    refine gw_callVi (As := [.int p2]) (rest := []) rfl (gc_X6_isSong  hw) mX6_isSong lmX6_147 oX6 clX6 rfl rfl ⟨Nat.le_of_ble_eq_true rfl, Nat.le_of_ble_eq_true rfl⟩ (Nat.le_of_ble_eq_true rfl) dX6_takes__10 (fun r_7 h_6 hw => ?_)
    refine gw_if_ne (tgt := 22) dX6_takes__13 (by decide) (fun c_8 => ?_) (fun c_8 => ?_)
    · have hw := hw.1 c_8
      refine gw_aload_n dX6_takes__22 rfl rfl ?_
      refine gw_callVv (As := []) (rest := []) rfl (gc_X6_begins  hw) mX6_begins lmX6_96 oX6 clX6 rfl rfl ⟨Nat.le_of_ble_eq_true rfl, Nat.le_of_ble_eq_true rfl⟩ (Nat.le_of_ble_eq_true rfl) dX6_takes__23 (fun h_9 hw => ?_)
      refine gw_bipush dX6_takes__26 bp_m9 ?_
      refine gw_istore_n (ls' := [some (.ref (ad 0)), some (.int p1), some (.int p2), some (.int (-9 : Int32)), none]) dX6_takes__28 rfl (Nat.le_of_ble_eq_true rfl) rfl ?_
      refine gw_iconst dX6_takes__29 ic_0 ?_
      refine gw_istore (ls' := [some (.ref (ad 0)), some (.int p1), some (.int p2), some (.int (-9 : Int32)), some (.int (0 : Int32))]) dX6_takes__30 (Nat.le_of_ble_eq_true rfl) rfl ?_
      obtain ⟨n_18, hw⟩ := hw
      exact tl_X6_takes__32   n_18 (-9 : Int32) (0 : Int32) h_9 hw
    · have hw := hw.2 c_8
      exact tk_X6_takes__16   h_6 hw
def wk_X6_write_220 (p1 : Int32) (p2 : Int32) (p3 : Int32) (K98 : Int32 → Int32 → Int32 → gw_H → Prop) (Q : Int32 → gw_H → Prop) : Int32 → Int32 → Int32 → gw_H → Prop :=
  fun x5 x7 s0 h => (K98 x5 s0 (x7 + (1 : Int32)) h)
set_option maxRecDepth 100000 in
set_option maxHeartbeats 4000000 in
theorem tk_X6_write_220 {l : Launch} {ad : Nat → Nat} {X : gw_X} {p1 : Int32} {p2 : Int32} {p3 : Int32} {K98 : Int32 → Int32 → Int32 → gw_H → Prop} {Q : Int32 → gw_H → Prop}  (hK98 : ∀ (y5 : Int32) (y6 : Int32) (y7 : Int32) (h : gw_H), K98 y5 y6 y7 h → gw_G l vM ad cX6_write RX6 10 (some .int) 7 158 Q X h 98 [some (.ref (ad 0)), some (.int p1), some (.int p2), some (.int p3), none, some (.int y5), some (.int y6), some (.int y7), none, none] []) (x5 : Int32) (x7 : Int32) (s0 : Int32) (h : gw_H) (hw : wk_X6_write_220 p1 p2 p3 K98 Q x5 x7 s0 h) : gw_G l vM ad cX6_write RX6 10 (some .int) 7 158 Q X h 220 [some (.ref (ad 0)), some (.int p1), some (.int p2), some (.int p3), none, some (.int x5), none, some (.int x7), none, none] [.int s0] := by
  unfold wk_X6_write_220 at hw
  refine gw_istore (ls' := [some (.ref (ad 0)), some (.int p1), some (.int p2), some (.int p3), none, some (.int x5), some (.int s0), some (.int x7), none, none]) dX6_write_220 (Nat.le_of_ble_eq_true rfl) rfl ?_
  refine gw_iinc (ls' := [some (.ref (ad 0)), some (.int p1), some (.int p2), some (.int p3), none, some (.int x5), some (.int s0), some (.int (x7 + (1 : Int32))), none, none]) dX6_write_222 rfl (congrArg (fun z => x7 + z) ic_1) (Nat.le_of_ble_eq_true rfl) rfl ?_
  refine gw_goto (tgt := 98) dX6_write_225 (by decide) ?_
  exact hK98 x5 s0 (x7 + (1 : Int32)) h hw
def wk_X6_write_204 (p1 : Int32) (p2 : Int32) (p3 : Int32) (K98 : Int32 → Int32 → Int32 → gw_H → Prop) (Q : Int32 → gw_H → Prop) : Int32 → Int32 → Int32 → Int32 → gw_H → Prop :=
  fun x6 x7 x9 s0 h => ((x9 ≤ x6 → (wk_X6_write_220 p1 p2 p3 K98 Q s0 x7 x6 h)) ∧ (¬ x9 ≤ x6 → (wk_X6_write_220 p1 p2 p3 K98 Q s0 x7 x9 h)))
set_option maxRecDepth 100000 in
set_option maxHeartbeats 4000000 in
theorem tk_X6_write_204 {l : Launch} {ad : Nat → Nat} {X : gw_X} {p1 : Int32} {p2 : Int32} {p3 : Int32} {K98 : Int32 → Int32 → Int32 → gw_H → Prop} {Q : Int32 → gw_H → Prop}  (hK98 : ∀ (y5 : Int32) (y6 : Int32) (y7 : Int32) (h : gw_H), K98 y5 y6 y7 h → gw_G l vM ad cX6_write RX6 10 (some .int) 7 158 Q X h 98 [some (.ref (ad 0)), some (.int p1), some (.int p2), some (.int p3), none, some (.int y5), some (.int y6), some (.int y7), none, none] []) (x6 : Int32) (x7 : Int32) (x9 : Int32) (s0 : Int32) (h : gw_H) (hw : wk_X6_write_204 p1 p2 p3 K98 Q x6 x7 x9 s0 h) : gw_G l vM ad cX6_write RX6 10 (some .int) 7 158 Q X h 204 [some (.ref (ad 0)), some (.int p1), some (.int p2), some (.int p3), none, none, some (.int x6), some (.int x7), none, some (.int x9)] [.int s0] := by
  unfold wk_X6_write_204 at hw
  refine gw_istore (ls' := [some (.ref (ad 0)), some (.int p1), some (.int p2), some (.int p3), none, some (.int s0), some (.int x6), some (.int x7), none, some (.int x9)]) dX6_write_204 (Nat.le_of_ble_eq_true rfl) rfl ?_
  refine gw_iload dX6_write_206 rfl ?_
  refine gw_iload dX6_write_208 rfl ?_
  refine gw_icmp_le (tgt := 218) dX6_write_210 (by decide) (fun c_10 => ?_) (fun c_10 => ?_)
  · have hw := hw.1 c_10
    refine gw_iload dX6_write_218 rfl ?_
    refine gw_forget (ls' := [some (.ref (ad 0)), some (.int p1), some (.int p2), some (.int p3), none, some (.int s0), none, some (.int x7), none, none]) (gw_sub.s (gw_sub.s (gw_sub.s (gw_sub.s (gw_sub.n (gw_sub.s (gw_sub.n (gw_sub.s (gw_sub.n (gw_sub.n gw_sub.z)))))))))) ?_
    exact tk_X6_write_220  hK98 s0 x7 x6 h hw
  · have hw := hw.2 c_10
    refine gw_iload dX6_write_213 rfl ?_
    refine gw_goto (tgt := 220) dX6_write_215 (by decide) ?_
    refine gw_forget (ls' := [some (.ref (ad 0)), some (.int p1), some (.int p2), some (.int p3), none, some (.int s0), none, some (.int x7), none, none]) (gw_sub.s (gw_sub.s (gw_sub.s (gw_sub.s (gw_sub.n (gw_sub.s (gw_sub.n (gw_sub.s (gw_sub.n (gw_sub.n gw_sub.z)))))))))) ?_
    exact tk_X6_write_220  hK98 s0 x7 x9 h hw
def wl_X6_write_98 (p1 : Int32) (p2 : Int32) (p3 : Int32)  (Q : Int32 → gw_H → Prop) : Nat → Int32 → Int32 → Int32 → gw_H → Prop
  | 0 => fun _ _ _ _ => False
  | n + 1 => fun x5 x6 x7 h => (((60 : Int32) ≤ x7 → ((¬ p3 = 0 → Q x6 h) ∧ (p3 = 0 → Q x5 h))) ∧ (¬ (60 : Int32) ≤ x7 → (vp_in ((22 : Int32) + ((3 : Int32) * (h 2 2))) 73 ∧ (vp_in (((22 : Int32) + ((3 : Int32) * (h 2 2))) + (1 : Int32)) 73 ∧ (vp_in (((22 : Int32) + ((3 : Int32) * (h 2 2))) + (2 : Int32)) 73 ∧ (wp_X6_gets (gw_up (gw_up (gw_up (gw_up h 2 ((22 : Int32) + ((3 : Int32) * (h 2 2))).toNatClampNeg (x7 / (10 : Int32))) 2 (((22 : Int32) + ((3 : Int32) * (h 2 2))) + (1 : Int32)).toNatClampNeg (x7 - x7 / (10 : Int32) * (10 : Int32))) 2 (((22 : Int32) + ((3 : Int32) * (h 2 2))) + (2 : Int32)).toNatClampNeg p1) 2 2 (((gw_up (gw_up (gw_up h 2 ((22 : Int32) + ((3 : Int32) * (h 2 2))).toNatClampNeg (x7 / (10 : Int32))) 2 (((22 : Int32) + ((3 : Int32) * (h 2 2))) + (1 : Int32)).toNatClampNeg (x7 - x7 / (10 : Int32) * (10 : Int32))) 2 (((22 : Int32) + ((3 : Int32) * (h 2 2))) + (2 : Int32)).toNatClampNeg p1) 2 2) + (1 : Int32))) (0 : Int32) (h 2 2) (fun _ h_6 => (wp_X6_haveBehind h_6 (h 2 2) p2 (fun r_8 h_7 => ((r_8 ≤ x6 → (wk_X6_write_204 p1 p2 p3 (wl_X6_write_98 p1 p2 p3  Q n) Q x6 x7 r_8 x5 h_7)) ∧ (¬ r_8 ≤ x6 → (wk_X6_write_204 p1 p2 p3 (wl_X6_write_98 p1 p2 p3  Q n) Q x6 x7 r_8 x7 h_7))))))))))))
set_option maxRecDepth 100000 in
set_option maxHeartbeats 4000000 in
theorem tl_X6_write_98 {l : Launch} {ad : Nat → Nat} {X : gw_X} {p1 : Int32} {p2 : Int32} {p3 : Int32}  {Q : Int32 → gw_H → Prop}   : ∀ (n : Nat) (x5 : Int32) (x6 : Int32) (x7 : Int32) (h : gw_H), wl_X6_write_98 p1 p2 p3  Q n x5 x6 x7 h → gw_G l vM ad cX6_write RX6 10 (some .int) 7 158 Q X h 98 [some (.ref (ad 0)), some (.int p1), some (.int p2), some (.int p3), none, some (.int x5), some (.int x6), some (.int x7), none, none] [] := by
  intro n
  induction n with
  | zero => intro x5 x6 x7 h hw; exact hw.elim
  | succ n ih =>
    intro x5 x6 x7 h hw
    unfold wl_X6_write_98 at hw
    refine gw_iload dX6_write_98 rfl ?_
    refine gw_bipush dX6_write_100 bp_60 ?_
    refine gw_icmp_ge (tgt := 228) dX6_write_102 (by decide) (fun c_4 => ?_) (fun c_4 => ?_)
    · have hw := hw.1 c_4
      refine gw_iload_n dX6_write_228 rfl rfl ?_
      refine gw_if_ne (tgt := 237) dX6_write_229 (by decide) (fun c_5 => ?_) (fun c_5 => ?_)
      · have hw := hw.1 c_5
        refine gw_iload dX6_write_237 rfl ?_
        exact gw_ireturn (ty := .int) hw rfl rfl dX6_write_239
      · have hw := hw.2 c_5
        refine gw_iload dX6_write_232 rfl ?_
        refine gw_goto (tgt := 239) dX6_write_234 (by decide) ?_
        exact gw_ireturn (ty := .int) hw rfl rfl dX6_write_239
    · have hw := hw.2 c_4
      refine gw_aload_n dX6_write_105 rfl rfl ?_
      refine gw_getf (k := 1) (v := .ref (ad 2)) oX6 clX6 inUX6 (Nat.le_of_ble_eq_true rfl) rfl lfX6_13 rfl dX6_write_106 ?_
      refine gw_iconst dX6_write_109 ic_2 ?_
      refine gw_iald am_2 in_2_73 cl_2 dX6_write_110 ?_
      refine gw_istore (ls' := [some (.ref (ad 0)), some (.int p1), some (.int p2), some (.int p3), none, some (.int x5), some (.int x6), some (.int x7), some (.int (h 2 2)), none]) dX6_write_111 (Nat.le_of_ble_eq_true rfl) rfl ?_
      refine gw_aload_n dX6_write_113 rfl rfl ?_
      refine gw_getf (k := 1) (v := .ref (ad 2)) oX6 clX6 inUX6 (Nat.le_of_ble_eq_true rfl) rfl lfX6_13 rfl dX6_write_114 ?_
      refine gw_bipush dX6_write_117 bp_22 ?_
      refine gw_iconst dX6_write_119 ic_3 ?_
      refine gw_iload dX6_write_120 rfl ?_
      refine gw_imul dX6_write_122 ?_
      refine gw_iadd dX6_write_123 ?_
      refine gw_iload dX6_write_124 rfl ?_
      refine gw_bipush dX6_write_126 bp_10 ?_
      refine gw_idiv dX6_write_128 (by decide) ?_
      have q_13 := hw.1
      have hw := hw.2
      refine gw_iast am_2 q_13 rfl dX6_write_129 ?_
      refine gw_aload_n dX6_write_130 rfl rfl ?_
      refine gw_getf (k := 1) (v := .ref (ad 2)) oX6 clX6 inUX6 (Nat.le_of_ble_eq_true rfl) rfl lfX6_13 rfl dX6_write_131 ?_
      refine gw_bipush dX6_write_134 bp_22 ?_
      refine gw_iconst dX6_write_136 ic_3 ?_
      refine gw_iload dX6_write_137 rfl ?_
      refine gw_imul dX6_write_139 ?_
      refine gw_iadd dX6_write_140 ?_
      refine gw_iconst dX6_write_141 ic_1 ?_
      refine gw_iadd dX6_write_142 ?_
      refine gw_iload dX6_write_143 rfl ?_
      refine gw_bipush dX6_write_145 bp_10 ?_
      refine gw_irem dX6_write_147 (by decide) ?_
      have q_12 := hw.1
      have hw := hw.2
      refine gw_iast am_2 q_12 rfl dX6_write_148 ?_
      refine gw_aload_n dX6_write_149 rfl rfl ?_
      refine gw_getf (k := 1) (v := .ref (ad 2)) oX6 clX6 inUX6 (Nat.le_of_ble_eq_true rfl) rfl lfX6_13 rfl dX6_write_150 ?_
      refine gw_bipush dX6_write_153 bp_22 ?_
      refine gw_iconst dX6_write_155 ic_3 ?_
      refine gw_iload dX6_write_156 rfl ?_
      refine gw_imul dX6_write_158 ?_
      refine gw_iadd dX6_write_159 ?_
      refine gw_iconst dX6_write_160 ic_2 ?_
      refine gw_iadd dX6_write_161 ?_
      refine gw_iload_n dX6_write_162 rfl rfl ?_
      have q_11 := hw.1
      have hw := hw.2
      refine gw_iast am_2 q_11 rfl dX6_write_163 ?_
      refine gw_aload_n dX6_write_164 rfl rfl ?_
      refine gw_getf (k := 1) (v := .ref (ad 2)) oX6 clX6 inUX6 (Nat.le_of_ble_eq_true rfl) rfl lfX6_13 rfl dX6_write_165 ?_
      refine gw_iconst dX6_write_168 ic_2 ?_
      refine gw_dup2 dX6_write_169 rfl rfl ?_
      refine gw_iald am_2 in_2_73 cl_2 dX6_write_170 ?_
      refine gw_iconst dX6_write_171 ic_1 ?_
      refine gw_iadd dX6_write_172 ?_
      refine gw_iast am_2 in_2_73 cl_2 dX6_write_173 ?_
      refine gw_aload_n dX6_write_174 rfl rfl ?_
      refine gw_iconst dX6_write_175 ic_0 ?_
      refine gw_iload dX6_write_176 rfl ?_
      refine gw_callVv (As := [.int (0 : Int32), .int (h 2 2)]) (rest := []) rfl (gc_X6_gets  hw) mX6_gets lmX6_81 oX6 clX6 rfl rfl ⟨Nat.le_of_ble_eq_true rfl, Nat.le_of_ble_eq_true rfl⟩ (Nat.le_of_ble_eq_true rfl) dX6_write_178 (fun h_6 hw => ?_)
      refine gw_aload_n dX6_write_181 rfl rfl ?_
      refine gw_iload dX6_write_182 rfl ?_
      refine gw_iload_n dX6_write_184 rfl rfl ?_
      refine gw_callVi (As := [.int (h 2 2), .int p2]) (rest := []) rfl (gc_X6_haveBehind  hw) mX6_haveBehind lmX6_167 oX6 clX6 rfl rfl ⟨Nat.le_of_ble_eq_true rfl, Nat.le_of_ble_eq_true rfl⟩ (Nat.le_of_ble_eq_true rfl) dX6_write_185 (fun r_8 h_7 hw => ?_)
      refine gw_istore (ls' := [some (.ref (ad 0)), some (.int p1), some (.int p2), some (.int p3), none, some (.int x5), some (.int x6), some (.int x7), some (.int (h 2 2)), some (.int r_8)]) dX6_write_188 (Nat.le_of_ble_eq_true rfl) rfl ?_
      refine gw_iload dX6_write_190 rfl ?_
      refine gw_iload dX6_write_192 rfl ?_
      refine gw_icmp_le (tgt := 202) dX6_write_194 (by decide) (fun c_9 => ?_) (fun c_9 => ?_)
      · have hw := hw.1 c_9
        refine gw_iload dX6_write_202 rfl ?_
        refine gw_forget (ls' := [some (.ref (ad 0)), some (.int p1), some (.int p2), some (.int p3), none, none, some (.int x6), some (.int x7), none, some (.int r_8)]) (gw_sub.s (gw_sub.s (gw_sub.s (gw_sub.s (gw_sub.n (gw_sub.n (gw_sub.s (gw_sub.s (gw_sub.n (gw_sub.s gw_sub.z)))))))))) ?_
        exact tk_X6_write_204   ih x6 x7 r_8 x5 h_7 hw
      · have hw := hw.2 c_9
        refine gw_iload dX6_write_197 rfl ?_
        refine gw_goto (tgt := 204) dX6_write_199 (by decide) ?_
        refine gw_forget (ls' := [some (.ref (ad 0)), some (.int p1), some (.int p2), some (.int p3), none, none, some (.int x6), some (.int x7), none, some (.int r_8)]) (gw_sub.s (gw_sub.s (gw_sub.s (gw_sub.s (gw_sub.n (gw_sub.n (gw_sub.s (gw_sub.s (gw_sub.n (gw_sub.s gw_sub.z)))))))))) ?_
        exact tk_X6_write_204   ih x6 x7 r_8 x7 h_7 hw
def wk_X6_write_69 (p1 : Int32) (p2 : Int32) (p3 : Int32)  (Q : Int32 → gw_H → Prop) : Int32 → gw_H → Prop :=
  fun s0 h => ((s0 = 0 → (wp_X6_begins h  (fun _ h_3 => (∃ n_14 : Nat, wl_X6_write_98 p1 p2 p3  Q n_14 (-9 : Int32) (-9 : Int32) (0 : Int32) h_3)))) ∧ (¬ s0 = 0 → (wp_X6_refuse h s0 (fun r_16 h_15 => Q r_16 h_15))))
set_option maxRecDepth 100000 in
set_option maxHeartbeats 4000000 in
theorem tk_X6_write_69 {l : Launch} {ad : Nat → Nat} {X : gw_X} {p1 : Int32} {p2 : Int32} {p3 : Int32}  {Q : Int32 → gw_H → Prop}   (s0 : Int32) (h : gw_H) (hw : wk_X6_write_69 p1 p2 p3  Q s0 h) : gw_G l vM ad cX6_write RX6 10 (some .int) 7 158 Q X h 69 [some (.ref (ad 0)), some (.int p1), some (.int p2), some (.int p3), none, none, none, none, none, none] [.int s0] := by
  unfold wk_X6_write_69 at hw
  refine gw_istore (ls' := [some (.ref (ad 0)), some (.int p1), some (.int p2), some (.int p3), some (.int s0), none, none, none, none, none]) dX6_write_69 (Nat.le_of_ble_eq_true rfl) rfl ?_
  refine gw_iload dX6_write_71 rfl ?_
  refine gw_if_eq (tgt := 83) dX6_write_73 (by decide) (fun c_2 => ?_) (fun c_2 => ?_)
  · have hw := hw.1 c_2
    refine gw_aload_n dX6_write_83 rfl rfl ?_
    refine gw_callVv (As := []) (rest := []) rfl (gc_X6_begins  hw) mX6_begins lmX6_96 oX6 clX6 rfl rfl ⟨Nat.le_of_ble_eq_true rfl, Nat.le_of_ble_eq_true rfl⟩ (Nat.le_of_ble_eq_true rfl) dX6_write_84 (fun h_3 hw => ?_)
    refine gw_bipush dX6_write_87 bp_m9 ?_
    refine gw_istore (ls' := [some (.ref (ad 0)), some (.int p1), some (.int p2), some (.int p3), some (.int s0), some (.int (-9 : Int32)), none, none, none, none]) dX6_write_89 (Nat.le_of_ble_eq_true rfl) rfl ?_
    refine gw_bipush dX6_write_91 bp_m9 ?_
    refine gw_istore (ls' := [some (.ref (ad 0)), some (.int p1), some (.int p2), some (.int p3), some (.int s0), some (.int (-9 : Int32)), some (.int (-9 : Int32)), none, none, none]) dX6_write_93 (Nat.le_of_ble_eq_true rfl) rfl ?_
    refine gw_iconst dX6_write_95 ic_0 ?_
    refine gw_istore (ls' := [some (.ref (ad 0)), some (.int p1), some (.int p2), some (.int p3), some (.int s0), some (.int (-9 : Int32)), some (.int (-9 : Int32)), some (.int (0 : Int32)), none, none]) dX6_write_96 (Nat.le_of_ble_eq_true rfl) rfl ?_
    refine gw_forget (ls' := [some (.ref (ad 0)), some (.int p1), some (.int p2), some (.int p3), none, some (.int (-9 : Int32)), some (.int (-9 : Int32)), some (.int (0 : Int32)), none, none]) (gw_sub.s (gw_sub.s (gw_sub.s (gw_sub.s (gw_sub.n (gw_sub.s (gw_sub.s (gw_sub.s (gw_sub.n (gw_sub.n gw_sub.z)))))))))) ?_
    obtain ⟨n_14, hw⟩ := hw
    exact tl_X6_write_98   n_14 (-9 : Int32) (-9 : Int32) (0 : Int32) h_3 hw
  · have hw := hw.2 c_2
    refine gw_aload_n dX6_write_76 rfl rfl ?_
    refine gw_iload dX6_write_77 rfl ?_
    refine gw_callVi (As := [.int s0]) (rest := []) rfl (gc_X6_refuse  hw) mX6_refuse lmX6_120 oX6 clX6 rfl rfl ⟨Nat.le_of_ble_eq_true rfl, Nat.le_of_ble_eq_true rfl⟩ (Nat.le_of_ble_eq_true rfl) dX6_write_79 (fun r_16 h_15 hw => ?_)
    exact gw_ireturn (ty := .int) hw rfl rfl dX6_write_82
def wk_X6_write_9 (p1 : Int32) (p2 : Int32) (p3 : Int32)  (Q : Int32 → gw_H → Prop) : gw_H → Prop :=
  fun h => (wk_X6_write_69 p1 p2 p3  Q (-4 : Int32) h)
set_option maxRecDepth 100000 in
set_option maxHeartbeats 4000000 in
theorem tk_X6_write_9 {l : Launch} {ad : Nat → Nat} {X : gw_X} {p1 : Int32} {p2 : Int32} {p3 : Int32}  {Q : Int32 → gw_H → Prop}    (h : gw_H) (hw : wk_X6_write_9 p1 p2 p3  Q h) : gw_G l vM ad cX6_write RX6 10 (some .int) 7 158 Q X h 9 [some (.ref (ad 0)), some (.int p1), some (.int p2), some (.int p3), none, none, none, none, none, none] [] := by
  unfold wk_X6_write_9 at hw
  refine gw_bipush dX6_write_9 bp_m4 ?_
  refine gw_goto (tgt := 69) dX6_write_11 (by decide) ?_
  exact tk_X6_write_69   (-4 : Int32) h hw
def wk_X6_write_36 (p1 : Int32) (p2 : Int32) (p3 : Int32)  (Q : Int32 → gw_H → Prop) : gw_H → Prop :=
  fun h => (wk_X6_write_69 p1 p2 p3  Q (-6 : Int32) h)
set_option maxRecDepth 100000 in
set_option maxHeartbeats 4000000 in
theorem tk_X6_write_36 {l : Launch} {ad : Nat → Nat} {X : gw_X} {p1 : Int32} {p2 : Int32} {p3 : Int32}  {Q : Int32 → gw_H → Prop}    (h : gw_H) (hw : wk_X6_write_36 p1 p2 p3  Q h) : gw_G l vM ad cX6_write RX6 10 (some .int) 7 158 Q X h 36 [some (.ref (ad 0)), some (.int p1), some (.int p2), some (.int p3), none, none, none, none, none, none] [] := by
  unfold wk_X6_write_36 at hw
  refine gw_bipush dX6_write_36 bp_m6 ?_
  refine gw_goto (tgt := 69) dX6_write_38 (by decide) ?_
  exact tk_X6_write_69   (-6 : Int32) h hw
def wp_X6_write (h : gw_H) (p1 : Int32) (p2 : Int32) (p3 : Int32) (Q : Int32 → gw_H → Prop) : Prop :=
  ((p1 < (1 : Int32) → (wk_X6_write_9 p1 p2 p3  Q h)) ∧ (¬ p1 < (1 : Int32) → ((0 ≤ p2 → (((9 : Int32) < p1 → (wk_X6_write_36 p1 p2 p3  Q h)) ∧ (¬ (9 : Int32) < p1 → (((60 : Int32) < p2 → (wk_X6_write_36 p1 p2 p3  Q h)) ∧ (¬ (60 : Int32) < p2 → ((¬ (h 2 2) = (5 : Int32) → (wp_X6_isIn h p3 (2 : Int32) (fun r_22 h_21 => ((¬ r_22 = 0 → ((¬ (h_21 2 3) = 0 → (wk_X6_write_69 p1 p2 p3  Q (0 : Int32) h_21)) ∧ ((h_21 2 3) = 0 → (wk_X6_write_69 p1 p2 p3  Q (-3 : Int32) h_21)))) ∧ (r_22 = 0 → (wk_X6_write_69 p1 p2 p3  Q (-2 : Int32) h_21)))))) ∧ ((h 2 2) = (5 : Int32) → (wk_X6_write_36 p1 p2 p3  Q h)))))))) ∧ (¬ 0 ≤ p2 → (wk_X6_write_9 p1 p2 p3  Q h)))))
set_option maxRecDepth 100000 in
set_option maxHeartbeats 4000000 in
theorem gc_X6_write {l : Launch} {ad : Nat → Nat} {h : gw_H} {p1 : Int32} {p2 : Int32} {p3 : Int32} {Q : Int32 → gw_H → Prop}  (hw : wp_X6_write h p1 p2 p3 Q) : gw_C l yX6_write cX6_write 10 (some .int) 7 158 vM ad [.ref (ad 0), .int p1, .int p2, .int p3] h Q := by
  refine gw_entry (own := RX6) [some (.ref (ad 0)), some (.int p1), some (.int p2), some (.int p3), none, none, none, none, none, none] pl_X6 rfl rfl (Nat.le_of_ble_eq_true rfl) rfl (fun X => ?_)
  unfold wp_X6_write at hw
  refine gw_iload_n dX6_write_0 rfl rfl ?_
  refine gw_iconst dX6_write_1 ic_1 ?_
  refine gw_icmp_lt (tgt := 9) dX6_write_2 (by decide) (fun c_1 => ?_) (fun c_1 => ?_)
  · have hw := hw.1 c_1
    exact tk_X6_write_9   h hw
  · have hw := hw.2 c_1
    refine gw_iload_n dX6_write_5 rfl rfl ?_
    refine gw_if_ge (tgt := 14) dX6_write_6 (by decide) (fun c_17 => ?_) (fun c_17 => ?_)
    · have hw := hw.1 c_17
      refine gw_iload_n dX6_write_14 rfl rfl ?_
      refine gw_bipush dX6_write_15 bp_9 ?_
      refine gw_icmp_gt (tgt := 36) dX6_write_17 (by decide) (fun c_18 => ?_) (fun c_18 => ?_)
      · have hw := hw.1 c_18
        exact tk_X6_write_36   h hw
      · have hw := hw.2 c_18
        refine gw_iload_n dX6_write_20 rfl rfl ?_
        refine gw_bipush dX6_write_21 bp_60 ?_
        refine gw_icmp_gt (tgt := 36) dX6_write_23 (by decide) (fun c_19 => ?_) (fun c_19 => ?_)
        · have hw := hw.1 c_19
          exact tk_X6_write_36   h hw
        · have hw := hw.2 c_19
          refine gw_aload_n dX6_write_26 rfl rfl ?_
          refine gw_getf (k := 1) (v := .ref (ad 2)) oX6 clX6 inUX6 (Nat.le_of_ble_eq_true rfl) rfl lfX6_13 rfl dX6_write_27 ?_
          refine gw_iconst dX6_write_30 ic_2 ?_
          refine gw_iald am_2 in_2_73 cl_2 dX6_write_31 ?_
          refine gw_iconst dX6_write_32 ic_5 ?_
          refine gw_icmp_ne (tgt := 41) dX6_write_33 (by decide) (fun c_20 => ?_) (fun c_20 => ?_)
          · have hw := hw.1 c_20
            refine gw_iload_n dX6_write_41 rfl rfl ?_
            refine gw_iconst dX6_write_42 ic_2 ?_
            refine gw_callSi (As := [.int p3, .int (2 : Int32)]) (rest := []) rfl (gc_X6_isIn  hw) mX6_isIn lmX6_53 rfl rfl ⟨Nat.le_of_ble_eq_true rfl, Nat.le_of_ble_eq_true rfl⟩ (Nat.le_of_ble_eq_true rfl) dX6_write_43 (fun r_22 h_21 hw => ?_)
            refine gw_if_ne (tgt := 54) dX6_write_46 (by decide) (fun c_23 => ?_) (fun c_23 => ?_)
            · have hw := hw.1 c_23
              refine gw_aload_n dX6_write_54 rfl rfl ?_
              refine gw_getf (k := 1) (v := .ref (ad 2)) oX6 clX6 inUX6 (Nat.le_of_ble_eq_true rfl) rfl lfX6_13 rfl dX6_write_55 ?_
              refine gw_iconst dX6_write_58 ic_3 ?_
              refine gw_iald am_2 in_3_73 cl_3 dX6_write_59 ?_
              refine gw_if_ne (tgt := 68) dX6_write_60 (by decide) (fun c_24 => ?_) (fun c_24 => ?_)
              · have hw := hw.1 c_24
                refine gw_iconst dX6_write_68 ic_0 ?_
                exact tk_X6_write_69   (0 : Int32) h_21 hw
              · have hw := hw.2 c_24
                refine gw_bipush dX6_write_63 bp_m3 ?_
                refine gw_goto (tgt := 69) dX6_write_65 (by decide) ?_
                exact tk_X6_write_69   (-3 : Int32) h_21 hw
            · have hw := hw.2 c_23
              refine gw_bipush dX6_write_49 bp_m2 ?_
              refine gw_goto (tgt := 69) dX6_write_51 (by decide) ?_
              exact tk_X6_write_69   (-2 : Int32) h_21 hw
          · have hw := hw.2 c_20
            exact tk_X6_write_36   h hw
    · have hw := hw.2 c_17
      exact tk_X6_write_9   h hw
