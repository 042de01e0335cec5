/-! ## the constructors, laid by wip/whole/gen/ctor.py out of the decode rows -/
def gi_W0 (cI : ClassId) (ad : Nat → Nat) : va_W := [(ad 0, .inr (0, [.ref (ad 1), .ref (ad 2), .ref (ad 3), .int 0])), (ad 1, .inl (cI, 8, .inl (fun _ => 0))), (ad 2, .inl (cI, 8, .inl (fun _ => 0))), (ad 3, .inl (cI, 8, .inl (fun _ => 0)))]
def gi_W3 (cI : ClassId) (ad : Nat → Nat) : va_W := [(ad 0, .inr (3, [.ref (ad 1), .ref (ad 2), .ref (ad 3), .int 0])), (ad 1, .inl (cI, 5, .inl (fun _ => 0))), (ad 2, .inl (cI, 5, .inl (fun _ => 0))), (ad 3, .inl (cI, 5, .inl (fun _ => 0)))]
def gi_W1 (cI : ClassId) (ad : Nat → Nat) : va_W := [(ad 0, .inr (1, [.ref (ad 1), .ref (ad 2), .ref (ad 3), .ref (ad 4), .ref (ad 5), .ref (ad 6), .ref (ad 7), .ref (ad 8), .int 0])), (ad 1, .inl (cI, 6, .inl (fun _ => 0))), (ad 2, .inl (cI, 6, .inl (fun _ => 0))), (ad 3, .inl (cI, 6, .inl (fun _ => 0))), (ad 4, .inl (cI, 6, .inl (fun _ => 0))), (ad 5, .inl (cI, 6, .inl (fun _ => 0))), (ad 6, .inl (cI, 6, .inl (fun _ => 0))), (ad 7, .inl (cI, 6, .inl (fun _ => 0))), (ad 8, .inl (cI, 6, .inl (fun _ => 0)))]
def gi_W4 (cI : ClassId) (ad : Nat → Nat) : va_W := [(ad 0, .inr (4, [.ref (ad 1), .int 0])), (ad 1, .inl (cI, 96, .inl (fun _ => 0)))]
def gi_W2 (cI : ClassId) (ad : Nat → Nat) : va_W := [(ad 0, .inr (2, [.ref (ad 1), .ref (ad 5), .ref (ad 9), .int 0, .int 6, .ref (ad 18), .ref (ad 19), .ref (ad 20), .ref (ad 21), .ref (ad 22)]))] ++ gi_W0 cI (fun k => ad (1 + k)) ++ gi_W3 cI (fun k => ad (5 + k)) ++ gi_W1 cI (fun k => ad (9 + k)) ++ [(ad 18, .inl (cI, 6, .inl (fun _ => 0))), (ad 19, .inl (cI, 6, .inl (fun _ => 0))), (ad 20, .inl (cI, 6, .inl (fun _ => 0))), (ad 21, .inl (cI, 6, .inl (fun _ => 0))), (ad 22, .inl (cI, 6, .inl (fun _ => 0)))]
def gi_f6 : Nat → Int32 := fun i => if i = 4 then 6 else 0
def gi_hC : gw_H := fun c => if c = 1 then gi_f6 else if c = 24 then gi_f6 else if c = 47 then gi_f6 else fun _ => 0
def gi_hM : gw_H := fun c => if c = 2 then upd (fun _ => 0) (5 : Int32).toNatClampNeg 6 else fun _ => 0
def gi_W5 (cI : ClassId) (ad : Nat → Nat) : va_W := gw_ws vC cI ad gi_hC
def gi_W6 (cI : ClassId) (ad : Nat → Nat) : va_W := gw_ws vM cI ad gi_hM
set_option maxRecDepth 100000 in
set_option maxHeartbeats 4000000 in
theorem gi_X0 (l : Launch) : gi_C l yX0_init cX0_init 1 12 3 24 0 [.null, .null, .null, .int 0] gi_W0 := by
  refine gi_entry (own := RX0) pl_X0 rfl rfl (fun X q0 => ?_)
  refine gi_aload dX0_init_0 ?_
  refine gi_obj lmX0_3 (Nat.le_of_ble_eq_true rfl) ⟨Nat.le_of_ble_eq_true rfl, Nat.le_of_ble_eq_true rfl⟩ rfl dX0_init_1 ?_
  refine gi_aload dX0_init_4 ?_
  refine gi_bipush (v := 8) dX0_init_5 (by decide) ?_
  refine gi_newa (N' := 8) (by decide) (by decide) (by decide) (Nat.le_of_ble_eq_true rfl) (Nat.le_of_ble_eq_true rfl) dX0_init_7 (fun q1 => ?_)
  refine gi_putF (k := 0) (fs := [.null, .null, .null, .int 0]) (R := fun cI => [(q1, .inl (cI, 8, .inl (fun _ => 0)))]) (ty := (.array .int)) (fun cI => rfl) clX0 inUX0 tyX0_ok nmX0 (by decide) rfl rfl lfX0_9 (by decide +kernel) rfl rfl (Nat.le_of_ble_eq_true rfl) dX0_init_9 ?_
  refine gi_aload dX0_init_12 ?_
  refine gi_bipush (v := 8) dX0_init_13 (by decide) ?_
  refine gi_newa (N' := 8) (by decide) (by decide) (by decide) (Nat.le_of_ble_eq_true rfl) (Nat.le_of_ble_eq_true rfl) dX0_init_15 (fun q2 => ?_)
  refine gi_putF (k := 1) (fs := [.ref q1, .null, .null, .int 0]) (R := fun cI => [(q1, .inl (cI, 8, .inl (fun _ => 0)))] ++ [(q2, .inl (cI, 8, .inl (fun _ => 0)))]) (ty := (.array .int)) (fun cI => by simp) clX0 inUX0 tyX0_ok nmX0 (by decide) rfl rfl lfX0_15 (by decide +kernel) rfl rfl (Nat.le_of_ble_eq_true rfl) dX0_init_17 ?_
  refine gi_aload dX0_init_20 ?_
  refine gi_bipush (v := 8) dX0_init_21 (by decide) ?_
  refine gi_newa (N' := 8) (by decide) (by decide) (by decide) (Nat.le_of_ble_eq_true rfl) (Nat.le_of_ble_eq_true rfl) dX0_init_23 (fun q3 => ?_)
  refine gi_putF (k := 2) (fs := [.ref q1, .ref q2, .null, .int 0]) (R := fun cI => [(q1, .inl (cI, 8, .inl (fun _ => 0)))] ++ [(q2, .inl (cI, 8, .inl (fun _ => 0)))] ++ [(q3, .inl (cI, 8, .inl (fun _ => 0)))]) (ty := (.array .int)) (fun cI => by simp) clX0 inUX0 tyX0_ok nmX0 (by decide) rfl rfl lfX0_18 (by decide +kernel) rfl rfl (Nat.le_of_ble_eq_true rfl) dX0_init_25 ?_
  refine gi_aload dX0_init_28 ?_
  refine gi_iconst (v := 0) dX0_init_29 (by decide) ?_
  refine gi_put (k := 3) (fs := [.ref q1, .ref q2, .ref q3, .int 0]) (R := fun cI => [(q1, .inl (cI, 8, .inl (fun _ => 0)))] ++ [(q2, .inl (cI, 8, .inl (fun _ => 0)))] ++ [(q3, .inl (cI, 8, .inl (fun _ => 0)))]) (ty := .int) (fun cI => by simp) clX0 inUX0 tyX0_ok nmX0 (by decide) rfl lfX0_21 (by decide +kernel) rfl rfl (Nat.le_of_ble_eq_true rfl) dX0_init_30 ?_
  exact gi_ret (ad := fun k => if k = 0 then q0 else if k < 2 then q1 else if k < 3 then q2 else if k < 4 then q3 else 0) (fun cI => rfl) rfl rfl rfl dX0_init_33
set_option maxRecDepth 100000 in
set_option maxHeartbeats 4000000 in
theorem gi_X3 (l : Launch) : gi_C l yX3_init cX3_init 1 12 3 15 3 [.null, .null, .null, .int 0] gi_W3 := by
  refine gi_entry (own := RX3) pl_X3 rfl rfl (fun X q0 => ?_)
  refine gi_aload dX3_init_0 ?_
  refine gi_obj lmX3_3 (Nat.le_of_ble_eq_true rfl) ⟨Nat.le_of_ble_eq_true rfl, Nat.le_of_ble_eq_true rfl⟩ rfl dX3_init_1 ?_
  refine gi_aload dX3_init_4 ?_
  refine gi_iconst (v := 5) dX3_init_5 (by decide) ?_
  refine gi_newa (N' := 5) (by decide) (by decide) (by decide) (Nat.le_of_ble_eq_true rfl) (Nat.le_of_ble_eq_true rfl) dX3_init_6 (fun q1 => ?_)
  refine gi_putF (k := 0) (fs := [.null, .null, .null, .int 0]) (R := fun cI => [(q1, .inl (cI, 5, .inl (fun _ => 0)))]) (ty := (.array .int)) (fun cI => rfl) clX3 inUX3 tyX3_ok nmX3 (by decide) rfl rfl lfX3_9 (by decide +kernel) rfl rfl (Nat.le_of_ble_eq_true rfl) dX3_init_8 ?_
  refine gi_aload dX3_init_11 ?_
  refine gi_iconst (v := 5) dX3_init_12 (by decide) ?_
  refine gi_newa (N' := 5) (by decide) (by decide) (by decide) (Nat.le_of_ble_eq_true rfl) (Nat.le_of_ble_eq_true rfl) dX3_init_13 (fun q2 => ?_)
  refine gi_putF (k := 1) (fs := [.ref q1, .null, .null, .int 0]) (R := fun cI => [(q1, .inl (cI, 5, .inl (fun _ => 0)))] ++ [(q2, .inl (cI, 5, .inl (fun _ => 0)))]) (ty := (.array .int)) (fun cI => by simp) clX3 inUX3 tyX3_ok nmX3 (by decide) rfl rfl lfX3_15 (by decide +kernel) rfl rfl (Nat.le_of_ble_eq_true rfl) dX3_init_15 ?_
  refine gi_aload dX3_init_18 ?_
  refine gi_iconst (v := 5) dX3_init_19 (by decide) ?_
  refine gi_newa (N' := 5) (by decide) (by decide) (by decide) (Nat.le_of_ble_eq_true rfl) (Nat.le_of_ble_eq_true rfl) dX3_init_20 (fun q3 => ?_)
  refine gi_putF (k := 2) (fs := [.ref q1, .ref q2, .null, .int 0]) (R := fun cI => [(q1, .inl (cI, 5, .inl (fun _ => 0)))] ++ [(q2, .inl (cI, 5, .inl (fun _ => 0)))] ++ [(q3, .inl (cI, 5, .inl (fun _ => 0)))]) (ty := (.array .int)) (fun cI => by simp) clX3 inUX3 tyX3_ok nmX3 (by decide) rfl rfl lfX3_18 (by decide +kernel) rfl rfl (Nat.le_of_ble_eq_true rfl) dX3_init_22 ?_
  refine gi_aload dX3_init_25 ?_
  refine gi_iconst (v := 0) dX3_init_26 (by decide) ?_
  refine gi_put (k := 3) (fs := [.ref q1, .ref q2, .ref q3, .int 0]) (R := fun cI => [(q1, .inl (cI, 5, .inl (fun _ => 0)))] ++ [(q2, .inl (cI, 5, .inl (fun _ => 0)))] ++ [(q3, .inl (cI, 5, .inl (fun _ => 0)))]) (ty := .int) (fun cI => by simp) clX3 inUX3 tyX3_ok nmX3 (by decide) rfl lfX3_21 (by decide +kernel) rfl rfl (Nat.le_of_ble_eq_true rfl) dX3_init_27 ?_
  exact gi_ret (ad := fun k => if k = 0 then q0 else if k < 2 then q1 else if k < 3 then q2 else if k < 4 then q3 else 0) (fun cI => rfl) rfl rfl rfl dX3_init_30
set_option maxRecDepth 100000 in
set_option maxHeartbeats 4000000 in
theorem gi_X1 (l : Launch) : gi_C l yX1_init cX1_init 1 12 8 48 1 [.null, .null, .null, .null, .null, .null, .null, .null, .int 0] gi_W1 := by
  refine gi_entry (own := RX1) pl_X1 rfl rfl (fun X q0 => ?_)
  refine gi_aload dX1_init_0 ?_
  refine gi_obj lmX1_3 (Nat.le_of_ble_eq_true rfl) ⟨Nat.le_of_ble_eq_true rfl, Nat.le_of_ble_eq_true rfl⟩ rfl dX1_init_1 ?_
  refine gi_aload dX1_init_4 ?_
  refine gi_bipush (v := 6) dX1_init_5 (by decide) ?_
  refine gi_newa (N' := 6) (by decide) (by decide) (by decide) (Nat.le_of_ble_eq_true rfl) (Nat.le_of_ble_eq_true rfl) dX1_init_7 (fun q1 => ?_)
  refine gi_putF (k := 0) (fs := [.null, .null, .null, .null, .null, .null, .null, .null, .int 0]) (R := fun cI => [(q1, .inl (cI, 6, .inl (fun _ => 0)))]) (ty := (.array .int)) (fun cI => rfl) clX1 inUX1 tyX1_ok nmX1 (by decide) rfl rfl lfX1_9 (by decide +kernel) rfl rfl (Nat.le_of_ble_eq_true rfl) dX1_init_9 ?_
  refine gi_aload dX1_init_12 ?_
  refine gi_bipush (v := 6) dX1_init_13 (by decide) ?_
  refine gi_newa (N' := 6) (by decide) (by decide) (by decide) (Nat.le_of_ble_eq_true rfl) (Nat.le_of_ble_eq_true rfl) dX1_init_15 (fun q2 => ?_)
  refine gi_putF (k := 1) (fs := [.ref q1, .null, .null, .null, .null, .null, .null, .null, .int 0]) (R := fun cI => [(q1, .inl (cI, 6, .inl (fun _ => 0)))] ++ [(q2, .inl (cI, 6, .inl (fun _ => 0)))]) (ty := (.array .int)) (fun cI => by simp) clX1 inUX1 tyX1_ok nmX1 (by decide) rfl rfl lfX1_15 (by decide +kernel) rfl rfl (Nat.le_of_ble_eq_true rfl) dX1_init_17 ?_
  refine gi_aload dX1_init_20 ?_
  refine gi_bipush (v := 6) dX1_init_21 (by decide) ?_
  refine gi_newa (N' := 6) (by decide) (by decide) (by decide) (Nat.le_of_ble_eq_true rfl) (Nat.le_of_ble_eq_true rfl) dX1_init_23 (fun q3 => ?_)
  refine gi_putF (k := 2) (fs := [.ref q1, .ref q2, .null, .null, .null, .null, .null, .null, .int 0]) (R := fun cI => [(q1, .inl (cI, 6, .inl (fun _ => 0)))] ++ [(q2, .inl (cI, 6, .inl (fun _ => 0)))] ++ [(q3, .inl (cI, 6, .inl (fun _ => 0)))]) (ty := (.array .int)) (fun cI => by simp) clX1 inUX1 tyX1_ok nmX1 (by decide) rfl rfl lfX1_18 (by decide +kernel) rfl rfl (Nat.le_of_ble_eq_true rfl) dX1_init_25 ?_
  refine gi_aload dX1_init_28 ?_
  refine gi_bipush (v := 6) dX1_init_29 (by decide) ?_
  refine gi_newa (N' := 6) (by decide) (by decide) (by decide) (Nat.le_of_ble_eq_true rfl) (Nat.le_of_ble_eq_true rfl) dX1_init_31 (fun q4 => ?_)
  refine gi_putF (k := 3) (fs := [.ref q1, .ref q2, .ref q3, .null, .null, .null, .null, .null, .int 0]) (R := fun cI => [(q1, .inl (cI, 6, .inl (fun _ => 0)))] ++ [(q2, .inl (cI, 6, .inl (fun _ => 0)))] ++ [(q3, .inl (cI, 6, .inl (fun _ => 0)))] ++ [(q4, .inl (cI, 6, .inl (fun _ => 0)))]) (ty := (.array .int)) (fun cI => by simp) clX1 inUX1 tyX1_ok nmX1 (by decide) rfl rfl lfX1_21 (by decide +kernel) rfl rfl (Nat.le_of_ble_eq_true rfl) dX1_init_33 ?_
  refine gi_aload dX1_init_36 ?_
  refine gi_bipush (v := 6) dX1_init_37 (by decide) ?_
  refine gi_newa (N' := 6) (by decide) (by decide) (by decide) (Nat.le_of_ble_eq_true rfl) (Nat.le_of_ble_eq_true rfl) dX1_init_39 (fun q5 => ?_)
  refine gi_putF (k := 4) (fs := [.ref q1, .ref q2, .ref q3, .ref q4, .null, .null, .null, .null, .int 0]) (R := fun cI => [(q1, .inl (cI, 6, .inl (fun _ => 0)))] ++ [(q2, .inl (cI, 6, .inl (fun _ => 0)))] ++ [(q3, .inl (cI, 6, .inl (fun _ => 0)))] ++ [(q4, .inl (cI, 6, .inl (fun _ => 0)))] ++ [(q5, .inl (cI, 6, .inl (fun _ => 0)))]) (ty := (.array .int)) (fun cI => by simp) clX1 inUX1 tyX1_ok nmX1 (by decide) rfl rfl lfX1_24 (by decide +kernel) rfl rfl (Nat.le_of_ble_eq_true rfl) dX1_init_41 ?_
  refine gi_aload dX1_init_44 ?_
  refine gi_bipush (v := 6) dX1_init_45 (by decide) ?_
  refine gi_newa (N' := 6) (by decide) (by decide) (by decide) (Nat.le_of_ble_eq_true rfl) (Nat.le_of_ble_eq_true rfl) dX1_init_47 (fun q6 => ?_)
  refine gi_putF (k := 5) (fs := [.ref q1, .ref q2, .ref q3, .ref q4, .ref q5, .null, .null, .null, .int 0]) (R := fun cI => [(q1, .inl (cI, 6, .inl (fun _ => 0)))] ++ [(q2, .inl (cI, 6, .inl (fun _ => 0)))] ++ [(q3, .inl (cI, 6, .inl (fun _ => 0)))] ++ [(q4, .inl (cI, 6, .inl (fun _ => 0)))] ++ [(q5, .inl (cI, 6, .inl (fun _ => 0)))] ++ [(q6, .inl (cI, 6, .inl (fun _ => 0)))]) (ty := (.array .int)) (fun cI => by simp) clX1 inUX1 tyX1_ok nmX1 (by decide) rfl rfl lfX1_27 (by decide +kernel) rfl rfl (Nat.le_of_ble_eq_true rfl) dX1_init_49 ?_
  refine gi_aload dX1_init_52 ?_
  refine gi_bipush (v := 6) dX1_init_53 (by decide) ?_
  refine gi_newa (N' := 6) (by decide) (by decide) (by decide) (Nat.le_of_ble_eq_true rfl) (Nat.le_of_ble_eq_true rfl) dX1_init_55 (fun q7 => ?_)
  refine gi_putF (k := 6) (fs := [.ref q1, .ref q2, .ref q3, .ref q4, .ref q5, .ref q6, .null, .null, .int 0]) (R := fun cI => [(q1, .inl (cI, 6, .inl (fun _ => 0)))] ++ [(q2, .inl (cI, 6, .inl (fun _ => 0)))] ++ [(q3, .inl (cI, 6, .inl (fun _ => 0)))] ++ [(q4, .inl (cI, 6, .inl (fun _ => 0)))] ++ [(q5, .inl (cI, 6, .inl (fun _ => 0)))] ++ [(q6, .inl (cI, 6, .inl (fun _ => 0)))] ++ [(q7, .inl (cI, 6, .inl (fun _ => 0)))]) (ty := (.array .int)) (fun cI => by simp) clX1 inUX1 tyX1_ok nmX1 (by decide) rfl rfl lfX1_30 (by decide +kernel) rfl rfl (Nat.le_of_ble_eq_true rfl) dX1_init_57 ?_
  refine gi_aload dX1_init_60 ?_
  refine gi_bipush (v := 6) dX1_init_61 (by decide) ?_
  refine gi_newa (N' := 6) (by decide) (by decide) (by decide) (Nat.le_of_ble_eq_true rfl) (Nat.le_of_ble_eq_true rfl) dX1_init_63 (fun q8 => ?_)
  refine gi_putF (k := 7) (fs := [.ref q1, .ref q2, .ref q3, .ref q4, .ref q5, .ref q6, .ref q7, .null, .int 0]) (R := fun cI => [(q1, .inl (cI, 6, .inl (fun _ => 0)))] ++ [(q2, .inl (cI, 6, .inl (fun _ => 0)))] ++ [(q3, .inl (cI, 6, .inl (fun _ => 0)))] ++ [(q4, .inl (cI, 6, .inl (fun _ => 0)))] ++ [(q5, .inl (cI, 6, .inl (fun _ => 0)))] ++ [(q6, .inl (cI, 6, .inl (fun _ => 0)))] ++ [(q7, .inl (cI, 6, .inl (fun _ => 0)))] ++ [(q8, .inl (cI, 6, .inl (fun _ => 0)))]) (ty := (.array .int)) (fun cI => by simp) clX1 inUX1 tyX1_ok nmX1 (by decide) rfl rfl lfX1_33 (by decide +kernel) rfl rfl (Nat.le_of_ble_eq_true rfl) dX1_init_65 ?_
  refine gi_aload dX1_init_68 ?_
  refine gi_iconst (v := 0) dX1_init_69 (by decide) ?_
  refine gi_put (k := 8) (fs := [.ref q1, .ref q2, .ref q3, .ref q4, .ref q5, .ref q6, .ref q7, .ref q8, .int 0]) (R := fun cI => [(q1, .inl (cI, 6, .inl (fun _ => 0)))] ++ [(q2, .inl (cI, 6, .inl (fun _ => 0)))] ++ [(q3, .inl (cI, 6, .inl (fun _ => 0)))] ++ [(q4, .inl (cI, 6, .inl (fun _ => 0)))] ++ [(q5, .inl (cI, 6, .inl (fun _ => 0)))] ++ [(q6, .inl (cI, 6, .inl (fun _ => 0)))] ++ [(q7, .inl (cI, 6, .inl (fun _ => 0)))] ++ [(q8, .inl (cI, 6, .inl (fun _ => 0)))]) (ty := .int) (fun cI => by simp) clX1 inUX1 tyX1_ok nmX1 (by decide) rfl lfX1_36 (by decide +kernel) rfl rfl (Nat.le_of_ble_eq_true rfl) dX1_init_70 ?_
  exact gi_ret (ad := fun k => if k = 0 then q0 else if k < 2 then q1 else if k < 3 then q2 else if k < 4 then q3 else if k < 5 then q4 else if k < 6 then q5 else if k < 7 then q6 else if k < 8 then q7 else if k < 9 then q8 else 0) (fun cI => rfl) rfl rfl rfl dX1_init_73
set_option maxRecDepth 100000 in
set_option maxHeartbeats 4000000 in
theorem gi_X4 (l : Launch) : gi_C l yX4_init cX4_init 1 12 1 96 4 [.null, .int 0] gi_W4 := by
  refine gi_entry (own := RX4) pl_X4 rfl rfl (fun X q0 => ?_)
  refine gi_aload dX4_init_0 ?_
  refine gi_obj lmX4_3 (Nat.le_of_ble_eq_true rfl) ⟨Nat.le_of_ble_eq_true rfl, Nat.le_of_ble_eq_true rfl⟩ rfl dX4_init_1 ?_
  refine gi_aload dX4_init_4 ?_
  refine gi_bipush (v := 96) dX4_init_5 (by decide) ?_
  refine gi_newa (N' := 96) (by decide) (by decide) (by decide) (Nat.le_of_ble_eq_true rfl) (Nat.le_of_ble_eq_true rfl) dX4_init_7 (fun q1 => ?_)
  refine gi_putF (k := 0) (fs := [.null, .int 0]) (R := fun cI => [(q1, .inl (cI, 96, .inl (fun _ => 0)))]) (ty := (.array .int)) (fun cI => rfl) clX4 inUX4 tyX4_ok nmX4 (by decide) rfl rfl lfX4_9 (by decide +kernel) rfl rfl (Nat.le_of_ble_eq_true rfl) dX4_init_9 ?_
  refine gi_aload dX4_init_12 ?_
  refine gi_iconst (v := 0) dX4_init_13 (by decide) ?_
  refine gi_put (k := 1) (fs := [.ref q1, .int 0]) (R := fun cI => [(q1, .inl (cI, 96, .inl (fun _ => 0)))]) (ty := .int) (fun cI => rfl) clX4 inUX4 tyX4_ok nmX4 (by decide) rfl lfX4_15 (by decide +kernel) rfl rfl (Nat.le_of_ble_eq_true rfl) dX4_init_14 ?_
  exact gi_ret (ad := fun k => if k = 0 then q0 else if k < 2 then q1 else 0) (fun cI => rfl) rfl rfl rfl dX4_init_17
set_option maxRecDepth 100000 in
set_option maxHeartbeats 4000000 in
theorem gi_X2 (l : Launch) : gi_C l yX2_init cX2_init 2 32 22 134 2 [.null, .null, .null, .int 0, .int 0, .null, .null, .null, .null, .null] gi_W2 := by
  refine gi_entry (own := RX2) pl_X2 rfl rfl (fun X q0 => ?_)
  refine gi_aload dX2_init_0 ?_
  refine gi_obj lmX2_3 (Nat.le_of_ble_eq_true rfl) ⟨Nat.le_of_ble_eq_true rfl, Nat.le_of_ble_eq_true rfl⟩ rfl dX2_init_1 ?_
  refine gi_aload dX2_init_4 ?_
  refine gi_new (ci' := 0) (ty := tyX0) (fs := [.null, .null, .null, .int 0]) inUX0 tyX0_ok lcX2_9 instX0 mkX0_init.2.2 clX0 (by intro j hj; match j, hj with | 0, _ => rfl | 1, _ => rfl | 2, _ => rfl | 3, _ => rfl | j + 4, hj => omega) (Nat.le_of_ble_eq_true rfl) (Nat.le_of_ble_eq_true rfl) dX2_init_5 (fun q1 => ?_)
  refine gi_dup dX2_init_8 ?_
  refine gi_call (R := fun cI => (q0, .inr (2, [.null, .null, .null, .int 0, .int 0, .null, .null, .null, .null, .null])) :: ([])) (fun cI => rfl) (gi_X0 l) mkX0_init ⟨rfl, by decide +kernel, by decide +kernel, by decide +kernel⟩ lmX2_11 ⟨Nat.le_of_ble_eq_true rfl, Nat.le_of_ble_eq_true rfl⟩ (Nat.le_of_ble_eq_true rfl) ⟨Nat.le_of_ble_eq_true rfl, Nat.le_of_ble_eq_true rfl⟩ dX2_init_9 (fun adq1 hq1 => ?_)
  subst hq1
  refine gi_putF (k := 0) (fs := [.null, .null, .null, .int 0, .int 0, .null, .null, .null, .null, .null]) (R := fun cI => gi_W0 cI adq1) (ty := (.object "SongThatStays$Doors")) (fun cI => by simp) clX2 inUX2 tyX2_ok nmX2 (by decide) rfl rfl lfX2_12 (by decide +kernel) rfl rfl (Nat.le_of_ble_eq_true rfl) dX2_init_12 ?_
  refine gi_aload dX2_init_15 ?_
  refine gi_new (ci' := 3) (ty := tyX3) (fs := [.null, .null, .null, .int 0]) inUX3 tyX3_ok lcX2_18 instX3 mkX3_init.2.2 clX3 (by intro j hj; match j, hj with | 0, _ => rfl | 1, _ => rfl | 2, _ => rfl | 3, _ => rfl | j + 4, hj => omega) (Nat.le_of_ble_eq_true rfl) (Nat.le_of_ble_eq_true rfl) dX2_init_16 (fun q2 => ?_)
  refine gi_dup dX2_init_19 ?_
  refine gi_call (R := fun cI => (q0, .inr (2, [.ref (adq1 0), .null, .null, .int 0, .int 0, .null, .null, .null, .null, .null])) :: (gi_W0 cI adq1)) (fun cI => by simp) (gi_X3 l) mkX3_init ⟨rfl, by decide +kernel, by decide +kernel, by decide +kernel⟩ lmX2_20 ⟨Nat.le_of_ble_eq_true rfl, Nat.le_of_ble_eq_true rfl⟩ (Nat.le_of_ble_eq_true rfl) ⟨Nat.le_of_ble_eq_true rfl, Nat.le_of_ble_eq_true rfl⟩ dX2_init_20 (fun adq2 hq2 => ?_)
  subst hq2
  refine gi_putF (k := 1) (fs := [.ref (adq1 0), .null, .null, .int 0, .int 0, .null, .null, .null, .null, .null]) (R := fun cI => gi_W0 cI adq1 ++ gi_W3 cI adq2) (ty := (.object "SongThatStays$Songs")) (fun cI => by simp) clX2 inUX2 tyX2_ok nmX2 (by decide) rfl rfl lfX2_21 (by decide +kernel) rfl rfl (Nat.le_of_ble_eq_true rfl) dX2_init_23 ?_
  refine gi_aload dX2_init_26 ?_
  refine gi_new (ci' := 1) (ty := tyX1) (fs := [.null, .null, .null, .null, .null, .null, .null, .null, .int 0]) inUX1 tyX1_ok lcX2_25 instX1 mkX1_init.2.2 clX1 (by intro j hj; match j, hj with | 0, _ => rfl | 1, _ => rfl | 2, _ => rfl | 3, _ => rfl | 4, _ => rfl | 5, _ => rfl | 6, _ => rfl | 7, _ => rfl | 8, _ => rfl | j + 9, hj => omega) (Nat.le_of_ble_eq_true rfl) (Nat.le_of_ble_eq_true rfl) dX2_init_27 (fun q3 => ?_)
  refine gi_dup dX2_init_30 ?_
  refine gi_call (R := fun cI => (q0, .inr (2, [.ref (adq1 0), .ref (adq2 0), .null, .int 0, .int 0, .null, .null, .null, .null, .null])) :: (gi_W0 cI adq1 ++ gi_W3 cI adq2)) (fun cI => by simp) (gi_X1 l) mkX1_init ⟨rfl, by decide +kernel, by decide +kernel, by decide +kernel⟩ lmX2_27 ⟨Nat.le_of_ble_eq_true rfl, Nat.le_of_ble_eq_true rfl⟩ (Nat.le_of_ble_eq_true rfl) ⟨Nat.le_of_ble_eq_true rfl, Nat.le_of_ble_eq_true rfl⟩ dX2_init_31 (fun adq3 hq3 => ?_)
  subst hq3
  refine gi_putF (k := 2) (fs := [.ref (adq1 0), .ref (adq2 0), .null, .int 0, .int 0, .null, .null, .null, .null, .null]) (R := fun cI => gi_W0 cI adq1 ++ gi_W3 cI adq2 ++ gi_W1 cI adq3) (ty := (.object "SongThatStays$Heads")) (fun cI => by simp) clX2 inUX2 tyX2_ok nmX2 (by decide) rfl rfl lfX2_28 (by decide +kernel) rfl rfl (Nat.le_of_ble_eq_true rfl) dX2_init_34 ?_
  refine gi_aload dX2_init_37 ?_
  refine gi_iconst (v := 0) dX2_init_38 (by decide) ?_
  refine gi_put (k := 3) (fs := [.ref (adq1 0), .ref (adq2 0), .ref (adq3 0), .int 0, .int 0, .null, .null, .null, .null, .null]) (R := fun cI => gi_W0 cI adq1 ++ gi_W3 cI adq2 ++ gi_W1 cI adq3) (ty := .int) (fun cI => by simp) clX2 inUX2 tyX2_ok nmX2 (by decide) rfl lfX2_32 (by decide +kernel) rfl rfl (Nat.le_of_ble_eq_true rfl) dX2_init_39 ?_
  refine gi_aload dX2_init_42 ?_
  refine gi_bipush (v := 6) dX2_init_43 (by decide) ?_
  refine gi_put (k := 4) (fs := [.ref (adq1 0), .ref (adq2 0), .ref (adq3 0), .int 0, .int 0, .null, .null, .null, .null, .null]) (R := fun cI => gi_W0 cI adq1 ++ gi_W3 cI adq2 ++ gi_W1 cI adq3) (ty := .int) (fun cI => by simp) clX2 inUX2 tyX2_ok nmX2 (by decide) rfl lfX2_36 (by decide +kernel) rfl rfl (Nat.le_of_ble_eq_true rfl) dX2_init_45 ?_
  refine gi_aload dX2_init_48 ?_
  refine gi_bipush (v := 6) dX2_init_49 (by decide) ?_
  refine gi_newa (N' := 6) (by decide) (by decide) (by decide) (Nat.le_of_ble_eq_true rfl) (Nat.le_of_ble_eq_true rfl) dX2_init_51 (fun q4 => ?_)
  refine gi_putF (k := 5) (fs := [.ref (adq1 0), .ref (adq2 0), .ref (adq3 0), .int 0, .int 6, .null, .null, .null, .null, .null]) (R := fun cI => gi_W0 cI adq1 ++ gi_W3 cI adq2 ++ gi_W1 cI adq3 ++ [(q4, .inl (cI, 6, .inl (fun _ => 0)))]) (ty := (.array .int)) (fun cI => by simp) clX2 inUX2 tyX2_ok nmX2 (by decide) rfl rfl lfX2_39 (by decide +kernel) rfl rfl (Nat.le_of_ble_eq_true rfl) dX2_init_53 ?_
  refine gi_aload dX2_init_56 ?_
  refine gi_bipush (v := 6) dX2_init_57 (by decide) ?_
  refine gi_newa (N' := 6) (by decide) (by decide) (by decide) (Nat.le_of_ble_eq_true rfl) (Nat.le_of_ble_eq_true rfl) dX2_init_59 (fun q5 => ?_)
  refine gi_putF (k := 6) (fs := [.ref (adq1 0), .ref (adq2 0), .ref (adq3 0), .int 0, .int 6, .ref q4, .null, .null, .null, .null]) (R := fun cI => gi_W0 cI adq1 ++ gi_W3 cI adq2 ++ gi_W1 cI adq3 ++ [(q4, .inl (cI, 6, .inl (fun _ => 0)))] ++ [(q5, .inl (cI, 6, .inl (fun _ => 0)))]) (ty := (.array .int)) (fun cI => by simp) clX2 inUX2 tyX2_ok nmX2 (by decide) rfl rfl lfX2_43 (by decide +kernel) rfl rfl (Nat.le_of_ble_eq_true rfl) dX2_init_61 ?_
  refine gi_aload dX2_init_64 ?_
  refine gi_bipush (v := 6) dX2_init_65 (by decide) ?_
  refine gi_newa (N' := 6) (by decide) (by decide) (by decide) (Nat.le_of_ble_eq_true rfl) (Nat.le_of_ble_eq_true rfl) dX2_init_67 (fun q6 => ?_)
  refine gi_putF (k := 7) (fs := [.ref (adq1 0), .ref (adq2 0), .ref (adq3 0), .int 0, .int 6, .ref q4, .ref q5, .null, .null, .null]) (R := fun cI => gi_W0 cI adq1 ++ gi_W3 cI adq2 ++ gi_W1 cI adq3 ++ [(q4, .inl (cI, 6, .inl (fun _ => 0)))] ++ [(q5, .inl (cI, 6, .inl (fun _ => 0)))] ++ [(q6, .inl (cI, 6, .inl (fun _ => 0)))]) (ty := (.array .int)) (fun cI => by simp) clX2 inUX2 tyX2_ok nmX2 (by decide) rfl rfl lfX2_46 (by decide +kernel) rfl rfl (Nat.le_of_ble_eq_true rfl) dX2_init_69 ?_
  refine gi_aload dX2_init_72 ?_
  refine gi_bipush (v := 6) dX2_init_73 (by decide) ?_
  refine gi_newa (N' := 6) (by decide) (by decide) (by decide) (Nat.le_of_ble_eq_true rfl) (Nat.le_of_ble_eq_true rfl) dX2_init_75 (fun q7 => ?_)
  refine gi_putF (k := 8) (fs := [.ref (adq1 0), .ref (adq2 0), .ref (adq3 0), .int 0, .int 6, .ref q4, .ref q5, .ref q6, .null, .null]) (R := fun cI => gi_W0 cI adq1 ++ gi_W3 cI adq2 ++ gi_W1 cI adq3 ++ [(q4, .inl (cI, 6, .inl (fun _ => 0)))] ++ [(q5, .inl (cI, 6, .inl (fun _ => 0)))] ++ [(q6, .inl (cI, 6, .inl (fun _ => 0)))] ++ [(q7, .inl (cI, 6, .inl (fun _ => 0)))]) (ty := (.array .int)) (fun cI => by simp) clX2 inUX2 tyX2_ok nmX2 (by decide) rfl rfl lfX2_49 (by decide +kernel) rfl rfl (Nat.le_of_ble_eq_true rfl) dX2_init_77 ?_
  refine gi_aload dX2_init_80 ?_
  refine gi_bipush (v := 6) dX2_init_81 (by decide) ?_
  refine gi_newa (N' := 6) (by decide) (by decide) (by decide) (Nat.le_of_ble_eq_true rfl) (Nat.le_of_ble_eq_true rfl) dX2_init_83 (fun q8 => ?_)
  refine gi_putF (k := 9) (fs := [.ref (adq1 0), .ref (adq2 0), .ref (adq3 0), .int 0, .int 6, .ref q4, .ref q5, .ref q6, .ref q7, .null]) (R := fun cI => gi_W0 cI adq1 ++ gi_W3 cI adq2 ++ gi_W1 cI adq3 ++ [(q4, .inl (cI, 6, .inl (fun _ => 0)))] ++ [(q5, .inl (cI, 6, .inl (fun _ => 0)))] ++ [(q6, .inl (cI, 6, .inl (fun _ => 0)))] ++ [(q7, .inl (cI, 6, .inl (fun _ => 0)))] ++ [(q8, .inl (cI, 6, .inl (fun _ => 0)))]) (ty := (.array .int)) (fun cI => by simp) clX2 inUX2 tyX2_ok nmX2 (by decide) rfl rfl lfX2_52 (by decide +kernel) rfl rfl (Nat.le_of_ble_eq_true rfl) dX2_init_85 ?_
  exact gi_ret (ad := fun k => if k = 0 then q0 else if k < 5 then adq1 (k - 1) else if k < 9 then adq2 (k - 5) else if k < 18 then adq3 (k - 9) else if k < 19 then q4 else if k < 20 then q5 else if k < 21 then q6 else if k < 22 then q7 else if k < 23 then q8 else 0) (fun cI => rfl) rfl rfl rfl dX2_init_88
set_option maxRecDepth 100000 in
set_option maxHeartbeats 4000000 in
theorem gi_X6 (l : Launch) : gi_C l yX6_init cX6_init 1 12 13 434 6 [.null, .null, .null, .null, .null, .int 0, .null, .null, .null, .null, .null, .null, .null, .int 0, .int 0, .null, .int 0] gi_W6 := by
  refine gi_entry (own := RX6) pl_X6 rfl rfl (fun X q0 => ?_)
  refine gi_aload dX6_init_0 ?_
  refine gi_obj lmX6_1 (Nat.le_of_ble_eq_true rfl) ⟨Nat.le_of_ble_eq_true rfl, Nat.le_of_ble_eq_true rfl⟩ rfl dX6_init_1 ?_
  refine gi_aload dX6_init_4 ?_
  refine gi_bipush (v := 7) dX6_init_5 (by decide) ?_
  refine gi_newa (N' := 7) (by decide) (by decide) (by decide) (Nat.le_of_ble_eq_true rfl) (Nat.le_of_ble_eq_true rfl) dX6_init_7 (fun q1 => ?_)
  refine gi_putF (k := 0) (fs := [.null, .null, .null, .null, .null, .int 0, .null, .null, .null, .null, .null, .null, .null, .int 0, .int 0, .null, .int 0]) (R := fun cI => [(q1, .inl (cI, 7, .inl (fun _ => 0)))]) (ty := (.array .int)) (fun cI => rfl) clX6 inUX6 tyX6_ok nmX6 (by decide) rfl rfl lfX6_7 (by decide +kernel) rfl rfl (Nat.le_of_ble_eq_true rfl) dX6_init_9 ?_
  refine gi_aload dX6_init_12 ?_
  refine gi_bipush (v := 73) dX6_init_13 (by decide) ?_
  refine gi_newa (N' := 73) (by decide) (by decide) (by decide) (Nat.le_of_ble_eq_true rfl) (Nat.le_of_ble_eq_true rfl) dX6_init_15 (fun q2 => ?_)
  refine gi_putF (k := 1) (fs := [.ref q1, .null, .null, .null, .null, .int 0, .null, .null, .null, .null, .null, .null, .null, .int 0, .int 0, .null, .int 0]) (R := fun cI => [(q1, .inl (cI, 7, .inl (fun _ => 0)))] ++ [(q2, .inl (cI, 73, .inl (fun _ => 0)))]) (ty := (.array .int)) (fun cI => by simp) clX6 inUX6 tyX6_ok nmX6 (by decide) rfl rfl lfX6_13 (by decide +kernel) rfl rfl (Nat.le_of_ble_eq_true rfl) dX6_init_17 ?_
  refine gi_aload dX6_init_20 ?_
  refine gi_bipush (v := 73) dX6_init_21 (by decide) ?_
  refine gi_newa (N' := 73) (by decide) (by decide) (by decide) (Nat.le_of_ble_eq_true rfl) (Nat.le_of_ble_eq_true rfl) dX6_init_23 (fun q3 => ?_)
  refine gi_putF (k := 2) (fs := [.ref q1, .ref q2, .null, .null, .null, .int 0, .null, .null, .null, .null, .null, .null, .null, .int 0, .int 0, .null, .int 0]) (R := fun cI => [(q1, .inl (cI, 7, .inl (fun _ => 0)))] ++ [(q2, .inl (cI, 73, .inl (fun _ => 0)))] ++ [(q3, .inl (cI, 73, .inl (fun _ => 0)))]) (ty := (.array .int)) (fun cI => by simp) clX6 inUX6 tyX6_ok nmX6 (by decide) rfl rfl lfX6_16 (by decide +kernel) rfl rfl (Nat.le_of_ble_eq_true rfl) dX6_init_25 ?_
  refine gi_aload dX6_init_28 ?_
  refine gi_bipush (v := 73) dX6_init_29 (by decide) ?_
  refine gi_newa (N' := 73) (by decide) (by decide) (by decide) (Nat.le_of_ble_eq_true rfl) (Nat.le_of_ble_eq_true rfl) dX6_init_31 (fun q4 => ?_)
  refine gi_putF (k := 3) (fs := [.ref q1, .ref q2, .ref q3, .null, .null, .int 0, .null, .null, .null, .null, .null, .null, .null, .int 0, .int 0, .null, .int 0]) (R := fun cI => [(q1, .inl (cI, 7, .inl (fun _ => 0)))] ++ [(q2, .inl (cI, 73, .inl (fun _ => 0)))] ++ [(q3, .inl (cI, 73, .inl (fun _ => 0)))] ++ [(q4, .inl (cI, 73, .inl (fun _ => 0)))]) (ty := (.array .int)) (fun cI => by simp) clX6 inUX6 tyX6_ok nmX6 (by decide) rfl rfl lfX6_19 (by decide +kernel) rfl rfl (Nat.le_of_ble_eq_true rfl) dX6_init_33 ?_
  refine gi_aload dX6_init_36 ?_
  refine gi_bipush (v := 73) dX6_init_37 (by decide) ?_
  refine gi_newa (N' := 73) (by decide) (by decide) (by decide) (Nat.le_of_ble_eq_true rfl) (Nat.le_of_ble_eq_true rfl) dX6_init_39 (fun q5 => ?_)
  refine gi_putF (k := 4) (fs := [.ref q1, .ref q2, .ref q3, .ref q4, .null, .int 0, .null, .null, .null, .null, .null, .null, .null, .int 0, .int 0, .null, .int 0]) (R := fun cI => [(q1, .inl (cI, 7, .inl (fun _ => 0)))] ++ [(q2, .inl (cI, 73, .inl (fun _ => 0)))] ++ [(q3, .inl (cI, 73, .inl (fun _ => 0)))] ++ [(q4, .inl (cI, 73, .inl (fun _ => 0)))] ++ [(q5, .inl (cI, 73, .inl (fun _ => 0)))]) (ty := (.array .int)) (fun cI => by simp) clX6 inUX6 tyX6_ok nmX6 (by decide) rfl rfl lfX6_22 (by decide +kernel) rfl rfl (Nat.le_of_ble_eq_true rfl) dX6_init_41 ?_
  refine gi_aload dX6_init_44 ?_
  refine gi_bipush (v := 6) dX6_init_45 (by decide) ?_
  refine gi_newa (N' := 6) (by decide) (by decide) (by decide) (Nat.le_of_ble_eq_true rfl) (Nat.le_of_ble_eq_true rfl) dX6_init_47 (fun q6 => ?_)
  refine gi_putF (k := 6) (fs := [.ref q1, .ref q2, .ref q3, .ref q4, .ref q5, .int 0, .null, .null, .null, .null, .null, .null, .null, .int 0, .int 0, .null, .int 0]) (R := fun cI => [(q1, .inl (cI, 7, .inl (fun _ => 0)))] ++ [(q2, .inl (cI, 73, .inl (fun _ => 0)))] ++ [(q3, .inl (cI, 73, .inl (fun _ => 0)))] ++ [(q4, .inl (cI, 73, .inl (fun _ => 0)))] ++ [(q5, .inl (cI, 73, .inl (fun _ => 0)))] ++ [(q6, .inl (cI, 6, .inl (fun _ => 0)))]) (ty := (.array .int)) (fun cI => by simp) clX6 inUX6 tyX6_ok nmX6 (by decide) rfl rfl lfX6_25 (by decide +kernel) rfl rfl (Nat.le_of_ble_eq_true rfl) dX6_init_49 ?_
  refine gi_aload dX6_init_52 ?_
  refine gi_bipush (v := 6) dX6_init_53 (by decide) ?_
  refine gi_newa (N' := 6) (by decide) (by decide) (by decide) (Nat.le_of_ble_eq_true rfl) (Nat.le_of_ble_eq_true rfl) dX6_init_55 (fun q7 => ?_)
  refine gi_putF (k := 7) (fs := [.ref q1, .ref q2, .ref q3, .ref q4, .ref q5, .int 0, .ref q6, .null, .null, .null, .null, .null, .null, .int 0, .int 0, .null, .int 0]) (R := fun cI => [(q1, .inl (cI, 7, .inl (fun _ => 0)))] ++ [(q2, .inl (cI, 73, .inl (fun _ => 0)))] ++ [(q3, .inl (cI, 73, .inl (fun _ => 0)))] ++ [(q4, .inl (cI, 73, .inl (fun _ => 0)))] ++ [(q5, .inl (cI, 73, .inl (fun _ => 0)))] ++ [(q6, .inl (cI, 6, .inl (fun _ => 0)))] ++ [(q7, .inl (cI, 6, .inl (fun _ => 0)))]) (ty := (.array .int)) (fun cI => by simp) clX6 inUX6 tyX6_ok nmX6 (by decide) rfl rfl lfX6_28 (by decide +kernel) rfl rfl (Nat.le_of_ble_eq_true rfl) dX6_init_57 ?_
  refine gi_aload dX6_init_60 ?_
  refine gi_bipush (v := 6) dX6_init_61 (by decide) ?_
  refine gi_newa (N' := 6) (by decide) (by decide) (by decide) (Nat.le_of_ble_eq_true rfl) (Nat.le_of_ble_eq_true rfl) dX6_init_63 (fun q8 => ?_)
  refine gi_putF (k := 8) (fs := [.ref q1, .ref q2, .ref q3, .ref q4, .ref q5, .int 0, .ref q6, .ref q7, .null, .null, .null, .null, .null, .int 0, .int 0, .null, .int 0]) (R := fun cI => [(q1, .inl (cI, 7, .inl (fun _ => 0)))] ++ [(q2, .inl (cI, 73, .inl (fun _ => 0)))] ++ [(q3, .inl (cI, 73, .inl (fun _ => 0)))] ++ [(q4, .inl (cI, 73, .inl (fun _ => 0)))] ++ [(q5, .inl (cI, 73, .inl (fun _ => 0)))] ++ [(q6, .inl (cI, 6, .inl (fun _ => 0)))] ++ [(q7, .inl (cI, 6, .inl (fun _ => 0)))] ++ [(q8, .inl (cI, 6, .inl (fun _ => 0)))]) (ty := (.array .int)) (fun cI => by simp) clX6 inUX6 tyX6_ok nmX6 (by decide) rfl rfl lfX6_31 (by decide +kernel) rfl rfl (Nat.le_of_ble_eq_true rfl) dX6_init_65 ?_
  refine gi_aload dX6_init_68 ?_
  refine gi_bipush (v := 6) dX6_init_69 (by decide) ?_
  refine gi_newa (N' := 6) (by decide) (by decide) (by decide) (Nat.le_of_ble_eq_true rfl) (Nat.le_of_ble_eq_true rfl) dX6_init_71 (fun q9 => ?_)
  refine gi_putF (k := 9) (fs := [.ref q1, .ref q2, .ref q3, .ref q4, .ref q5, .int 0, .ref q6, .ref q7, .ref q8, .null, .null, .null, .null, .int 0, .int 0, .null, .int 0]) (R := fun cI => [(q1, .inl (cI, 7, .inl (fun _ => 0)))] ++ [(q2, .inl (cI, 73, .inl (fun _ => 0)))] ++ [(q3, .inl (cI, 73, .inl (fun _ => 0)))] ++ [(q4, .inl (cI, 73, .inl (fun _ => 0)))] ++ [(q5, .inl (cI, 73, .inl (fun _ => 0)))] ++ [(q6, .inl (cI, 6, .inl (fun _ => 0)))] ++ [(q7, .inl (cI, 6, .inl (fun _ => 0)))] ++ [(q8, .inl (cI, 6, .inl (fun _ => 0)))] ++ [(q9, .inl (cI, 6, .inl (fun _ => 0)))]) (ty := (.array .int)) (fun cI => by simp) clX6 inUX6 tyX6_ok nmX6 (by decide) rfl rfl lfX6_34 (by decide +kernel) rfl rfl (Nat.le_of_ble_eq_true rfl) dX6_init_73 ?_
  refine gi_aload dX6_init_76 ?_
  refine gi_bipush (v := 6) dX6_init_77 (by decide) ?_
  refine gi_newa (N' := 6) (by decide) (by decide) (by decide) (Nat.le_of_ble_eq_true rfl) (Nat.le_of_ble_eq_true rfl) dX6_init_79 (fun q10 => ?_)
  refine gi_putF (k := 10) (fs := [.ref q1, .ref q2, .ref q3, .ref q4, .ref q5, .int 0, .ref q6, .ref q7, .ref q8, .ref q9, .null, .null, .null, .int 0, .int 0, .null, .int 0]) (R := fun cI => [(q1, .inl (cI, 7, .inl (fun _ => 0)))] ++ [(q2, .inl (cI, 73, .inl (fun _ => 0)))] ++ [(q3, .inl (cI, 73, .inl (fun _ => 0)))] ++ [(q4, .inl (cI, 73, .inl (fun _ => 0)))] ++ [(q5, .inl (cI, 73, .inl (fun _ => 0)))] ++ [(q6, .inl (cI, 6, .inl (fun _ => 0)))] ++ [(q7, .inl (cI, 6, .inl (fun _ => 0)))] ++ [(q8, .inl (cI, 6, .inl (fun _ => 0)))] ++ [(q9, .inl (cI, 6, .inl (fun _ => 0)))] ++ [(q10, .inl (cI, 6, .inl (fun _ => 0)))]) (ty := (.array .int)) (fun cI => by simp) clX6 inUX6 tyX6_ok nmX6 (by decide) rfl rfl lfX6_37 (by decide +kernel) rfl rfl (Nat.le_of_ble_eq_true rfl) dX6_init_81 ?_
  refine gi_aload dX6_init_84 ?_
  refine gi_bipush (v := 96) dX6_init_85 (by decide) ?_
  refine gi_newa (N' := 96) (by decide) (by decide) (by decide) (Nat.le_of_ble_eq_true rfl) (Nat.le_of_ble_eq_true rfl) dX6_init_87 (fun q11 => ?_)
  refine gi_putF (k := 11) (fs := [.ref q1, .ref q2, .ref q3, .ref q4, .ref q5, .int 0, .ref q6, .ref q7, .ref q8, .ref q9, .ref q10, .null, .null, .int 0, .int 0, .null, .int 0]) (R := fun cI => [(q1, .inl (cI, 7, .inl (fun _ => 0)))] ++ [(q2, .inl (cI, 73, .inl (fun _ => 0)))] ++ [(q3, .inl (cI, 73, .inl (fun _ => 0)))] ++ [(q4, .inl (cI, 73, .inl (fun _ => 0)))] ++ [(q5, .inl (cI, 73, .inl (fun _ => 0)))] ++ [(q6, .inl (cI, 6, .inl (fun _ => 0)))] ++ [(q7, .inl (cI, 6, .inl (fun _ => 0)))] ++ [(q8, .inl (cI, 6, .inl (fun _ => 0)))] ++ [(q9, .inl (cI, 6, .inl (fun _ => 0)))] ++ [(q10, .inl (cI, 6, .inl (fun _ => 0)))] ++ [(q11, .inl (cI, 96, .inl (fun _ => 0)))]) (ty := (.array .int)) (fun cI => by simp) clX6 inUX6 tyX6_ok nmX6 (by decide) rfl rfl lfX6_40 (by decide +kernel) rfl rfl (Nat.le_of_ble_eq_true rfl) dX6_init_89 ?_
  refine gi_aload dX6_init_92 ?_
  refine gi_iconst (v := 3) dX6_init_93 (by decide) ?_
  refine gi_newa (N' := 3) (by decide) (by decide) (by decide) (Nat.le_of_ble_eq_true rfl) (Nat.le_of_ble_eq_true rfl) dX6_init_94 (fun q12 => ?_)
  refine gi_putF (k := 12) (fs := [.ref q1, .ref q2, .ref q3, .ref q4, .ref q5, .int 0, .ref q6, .ref q7, .ref q8, .ref q9, .ref q10, .ref q11, .null, .int 0, .int 0, .null, .int 0]) (R := fun cI => [(q1, .inl (cI, 7, .inl (fun _ => 0)))] ++ [(q2, .inl (cI, 73, .inl (fun _ => 0)))] ++ [(q3, .inl (cI, 73, .inl (fun _ => 0)))] ++ [(q4, .inl (cI, 73, .inl (fun _ => 0)))] ++ [(q5, .inl (cI, 73, .inl (fun _ => 0)))] ++ [(q6, .inl (cI, 6, .inl (fun _ => 0)))] ++ [(q7, .inl (cI, 6, .inl (fun _ => 0)))] ++ [(q8, .inl (cI, 6, .inl (fun _ => 0)))] ++ [(q9, .inl (cI, 6, .inl (fun _ => 0)))] ++ [(q10, .inl (cI, 6, .inl (fun _ => 0)))] ++ [(q11, .inl (cI, 96, .inl (fun _ => 0)))] ++ [(q12, .inl (cI, 3, .inl (fun _ => 0)))]) (ty := (.array .int)) (fun cI => by simp) clX6 inUX6 tyX6_ok nmX6 (by decide) rfl rfl lfX6_43 (by decide +kernel) rfl rfl (Nat.le_of_ble_eq_true rfl) dX6_init_96 ?_
  refine gi_aload dX6_init_99 ?_
  refine gi_bipush (v := 6) dX6_init_100 (by decide) ?_
  refine gi_newa (N' := 6) (by decide) (by decide) (by decide) (Nat.le_of_ble_eq_true rfl) (Nat.le_of_ble_eq_true rfl) dX6_init_102 (fun q13 => ?_)
  refine gi_putF (k := 15) (fs := [.ref q1, .ref q2, .ref q3, .ref q4, .ref q5, .int 0, .ref q6, .ref q7, .ref q8, .ref q9, .ref q10, .ref q11, .ref q12, .int 0, .int 0, .null, .int 0]) (R := fun cI => [(q1, .inl (cI, 7, .inl (fun _ => 0)))] ++ [(q2, .inl (cI, 73, .inl (fun _ => 0)))] ++ [(q3, .inl (cI, 73, .inl (fun _ => 0)))] ++ [(q4, .inl (cI, 73, .inl (fun _ => 0)))] ++ [(q5, .inl (cI, 73, .inl (fun _ => 0)))] ++ [(q6, .inl (cI, 6, .inl (fun _ => 0)))] ++ [(q7, .inl (cI, 6, .inl (fun _ => 0)))] ++ [(q8, .inl (cI, 6, .inl (fun _ => 0)))] ++ [(q9, .inl (cI, 6, .inl (fun _ => 0)))] ++ [(q10, .inl (cI, 6, .inl (fun _ => 0)))] ++ [(q11, .inl (cI, 96, .inl (fun _ => 0)))] ++ [(q12, .inl (cI, 3, .inl (fun _ => 0)))] ++ [(q13, .inl (cI, 6, .inl (fun _ => 0)))]) (ty := (.array .int)) (fun cI => by simp) clX6 inUX6 tyX6_ok nmX6 (by decide) rfl rfl lfX6_46 (by decide +kernel) rfl rfl (Nat.le_of_ble_eq_true rfl) dX6_init_104 ?_
  refine gi_aload dX6_init_107 ?_
  refine gi_getf (k := 1) (q := q2) (fs := [.ref q1, .ref q2, .ref q3, .ref q4, .ref q5, .int 0, .ref q6, .ref q7, .ref q8, .ref q9, .ref q10, .ref q11, .ref q12, .int 0, .int 0, .ref q13, .int 0]) (R := fun cI => [(q1, .inl (cI, 7, .inl (fun _ => 0)))] ++ [(q2, .inl (cI, 73, .inl (fun _ => 0)))] ++ [(q3, .inl (cI, 73, .inl (fun _ => 0)))] ++ [(q4, .inl (cI, 73, .inl (fun _ => 0)))] ++ [(q5, .inl (cI, 73, .inl (fun _ => 0)))] ++ [(q6, .inl (cI, 6, .inl (fun _ => 0)))] ++ [(q7, .inl (cI, 6, .inl (fun _ => 0)))] ++ [(q8, .inl (cI, 6, .inl (fun _ => 0)))] ++ [(q9, .inl (cI, 6, .inl (fun _ => 0)))] ++ [(q10, .inl (cI, 6, .inl (fun _ => 0)))] ++ [(q11, .inl (cI, 96, .inl (fun _ => 0)))] ++ [(q12, .inl (cI, 3, .inl (fun _ => 0)))] ++ [(q13, .inl (cI, 6, .inl (fun _ => 0)))]) (fun cI => rfl) clX6 inUX6 (by decide) rfl lfX6_13 rfl dX6_init_108 ?_
  refine gi_iconst (v := 5) dX6_init_111 (by decide) ?_
  refine gi_bipush (v := 6) dX6_init_112 (by decide) ?_
  refine gi_iast (k := 2) (n := 73) (g := fun _ => 0) (fun cI => rfl) (by unfold vp_in; decide) dX6_init_114 ?_
  exact gi_ret (ad := fun k => if k = 0 then q0 else if k < 2 then q1 else if k < 3 then q2 else if k < 4 then q3 else if k < 5 then q4 else if k < 6 then q5 else if k < 7 then q6 else if k < 8 then q7 else if k < 9 then q8 else if k < 10 then q9 else if k < 11 then q10 else if k < 12 then q11 else if k < 13 then q12 else if k < 14 then q13 else 0) (fun cI => rfl) rfl rfl rfl dX6_init_115
set_option maxRecDepth 100000 in
set_option maxHeartbeats 4000000 in
theorem gi_X5 (l : Launch) : gi_C l yX5_init cX5_init 3 52 73 543 5 [.null, .null, .null, .int 0, .null, .null, .int 0, .null] gi_W5 := by
  refine gi_entry (own := RX5) pl_X5 rfl rfl (fun X q0 => ?_)
  refine gi_aload dX5_init_0 ?_
  refine gi_obj lmX5_1 (Nat.le_of_ble_eq_true rfl) ⟨Nat.le_of_ble_eq_true rfl, Nat.le_of_ble_eq_true rfl⟩ rfl dX5_init_1 ?_
  refine gi_aload dX5_init_4 ?_
  refine gi_new (ci' := 2) (ty := tyX2) (fs := [.null, .null, .null, .int 0, .int 0, .null, .null, .null, .null, .null]) inUX2 tyX2_ok lcX5_7 instX2 mkX2_init.2.2 clX2 (by intro j hj; match j, hj with | 0, _ => rfl | 1, _ => rfl | 2, _ => rfl | 3, _ => rfl | 4, _ => rfl | 5, _ => rfl | 6, _ => rfl | 7, _ => rfl | 8, _ => rfl | 9, _ => rfl | j + 10, hj => omega) (Nat.le_of_ble_eq_true rfl) (Nat.le_of_ble_eq_true rfl) dX5_init_5 (fun q1 => ?_)
  refine gi_dup dX5_init_8 ?_
  refine gi_call (R := fun cI => (q0, .inr (5, [.null, .null, .null, .int 0, .null, .null, .int 0, .null])) :: ([])) (fun cI => rfl) (gi_X2 l) mkX2_init ⟨rfl, by decide +kernel, by decide +kernel, by decide +kernel⟩ lmX5_9 ⟨Nat.le_of_ble_eq_true rfl, Nat.le_of_ble_eq_true rfl⟩ (Nat.le_of_ble_eq_true rfl) ⟨Nat.le_of_ble_eq_true rfl, Nat.le_of_ble_eq_true rfl⟩ dX5_init_9 (fun adq1 hq1 => ?_)
  subst hq1
  refine gi_putF (k := 0) (fs := [.null, .null, .null, .int 0, .null, .null, .int 0, .null]) (R := fun cI => gi_W2 cI adq1) (ty := (.object "SongThatStays$Office")) (fun cI => by simp) clX5 inUX5 tyX5_ok nmX5 (by decide) rfl rfl lfX5_10 (by decide +kernel) rfl rfl (Nat.le_of_ble_eq_true rfl) dX5_init_12 ?_
  refine gi_aload dX5_init_15 ?_
  refine gi_new (ci' := 2) (ty := tyX2) (fs := [.null, .null, .null, .int 0, .int 0, .null, .null, .null, .null, .null]) inUX2 tyX2_ok lcX5_7 instX2 mkX2_init.2.2 clX2 (by intro j hj; match j, hj with | 0, _ => rfl | 1, _ => rfl | 2, _ => rfl | 3, _ => rfl | 4, _ => rfl | 5, _ => rfl | 6, _ => rfl | 7, _ => rfl | 8, _ => rfl | 9, _ => rfl | j + 10, hj => omega) (Nat.le_of_ble_eq_true rfl) (Nat.le_of_ble_eq_true rfl) dX5_init_16 (fun q2 => ?_)
  refine gi_dup dX5_init_19 ?_
  refine gi_call (R := fun cI => (q0, .inr (5, [.ref (adq1 0), .null, .null, .int 0, .null, .null, .int 0, .null])) :: (gi_W2 cI adq1)) (fun cI => by simp) (gi_X2 l) mkX2_init ⟨rfl, by decide +kernel, by decide +kernel, by decide +kernel⟩ lmX5_9 ⟨Nat.le_of_ble_eq_true rfl, Nat.le_of_ble_eq_true rfl⟩ (Nat.le_of_ble_eq_true rfl) ⟨Nat.le_of_ble_eq_true rfl, Nat.le_of_ble_eq_true rfl⟩ dX5_init_20 (fun adq2 hq2 => ?_)
  subst hq2
  refine gi_putF (k := 1) (fs := [.ref (adq1 0), .null, .null, .int 0, .null, .null, .int 0, .null]) (R := fun cI => gi_W2 cI adq1 ++ gi_W2 cI adq2) (ty := (.object "SongThatStays$Office")) (fun cI => by simp) clX5 inUX5 tyX5_ok nmX5 (by decide) rfl rfl lfX5_16 (by decide +kernel) rfl rfl (Nat.le_of_ble_eq_true rfl) dX5_init_23 ?_
  refine gi_aload dX5_init_26 ?_
  refine gi_new (ci' := 2) (ty := tyX2) (fs := [.null, .null, .null, .int 0, .int 0, .null, .null, .null, .null, .null]) inUX2 tyX2_ok lcX5_7 instX2 mkX2_init.2.2 clX2 (by intro j hj; match j, hj with | 0, _ => rfl | 1, _ => rfl | 2, _ => rfl | 3, _ => rfl | 4, _ => rfl | 5, _ => rfl | 6, _ => rfl | 7, _ => rfl | 8, _ => rfl | 9, _ => rfl | j + 10, hj => omega) (Nat.le_of_ble_eq_true rfl) (Nat.le_of_ble_eq_true rfl) dX5_init_27 (fun q3 => ?_)
  refine gi_dup dX5_init_30 ?_
  refine gi_call (R := fun cI => (q0, .inr (5, [.ref (adq1 0), .ref (adq2 0), .null, .int 0, .null, .null, .int 0, .null])) :: (gi_W2 cI adq1 ++ gi_W2 cI adq2)) (fun cI => by simp) (gi_X2 l) mkX2_init ⟨rfl, by decide +kernel, by decide +kernel, by decide +kernel⟩ lmX5_9 ⟨Nat.le_of_ble_eq_true rfl, Nat.le_of_ble_eq_true rfl⟩ (Nat.le_of_ble_eq_true rfl) ⟨Nat.le_of_ble_eq_true rfl, Nat.le_of_ble_eq_true rfl⟩ dX5_init_31 (fun adq3 hq3 => ?_)
  subst hq3
  refine gi_putF (k := 2) (fs := [.ref (adq1 0), .ref (adq2 0), .null, .int 0, .null, .null, .int 0, .null]) (R := fun cI => gi_W2 cI adq1 ++ gi_W2 cI adq2 ++ gi_W2 cI adq3) (ty := (.object "SongThatStays$Office")) (fun cI => by simp) clX5 inUX5 tyX5_ok nmX5 (by decide) rfl rfl lfX5_19 (by decide +kernel) rfl rfl (Nat.le_of_ble_eq_true rfl) dX5_init_34 ?_
  refine gi_aload dX5_init_37 ?_
  refine gi_iconst (v := 0) dX5_init_38 (by decide) ?_
  refine gi_put (k := 3) (fs := [.ref (adq1 0), .ref (adq2 0), .ref (adq3 0), .int 0, .null, .null, .int 0, .null]) (R := fun cI => gi_W2 cI adq1 ++ gi_W2 cI adq2 ++ gi_W2 cI adq3) (ty := .boolean) (fun cI => by simp) clX5 inUX5 tyX5_ok nmX5 (by decide) rfl lfX5_22 (by decide +kernel) rfl rfl (Nat.le_of_ble_eq_true rfl) dX5_init_39 ?_
  refine gi_aload dX5_init_42 ?_
  refine gi_new (ci' := 4) (ty := tyX4) (fs := [.null, .int 0]) inUX4 tyX4_ok lcX5_26 instX4 mkX4_init.2.2 clX4 (by intro j hj; match j, hj with | 0, _ => rfl | 1, _ => rfl | j + 2, hj => omega) (Nat.le_of_ble_eq_true rfl) (Nat.le_of_ble_eq_true rfl) dX5_init_43 (fun q4 => ?_)
  refine gi_dup dX5_init_46 ?_
  refine gi_call (R := fun cI => (q0, .inr (5, [.ref (adq1 0), .ref (adq2 0), .ref (adq3 0), .int 0, .null, .null, .int 0, .null])) :: (gi_W2 cI adq1 ++ gi_W2 cI adq2 ++ gi_W2 cI adq3)) (fun cI => by simp) (gi_X4 l) mkX4_init ⟨rfl, by decide +kernel, by decide +kernel, by decide +kernel⟩ lmX5_28 ⟨Nat.le_of_ble_eq_true rfl, Nat.le_of_ble_eq_true rfl⟩ (Nat.le_of_ble_eq_true rfl) ⟨Nat.le_of_ble_eq_true rfl, Nat.le_of_ble_eq_true rfl⟩ dX5_init_47 (fun adq4 hq4 => ?_)
  subst hq4
  refine gi_putF (k := 4) (fs := [.ref (adq1 0), .ref (adq2 0), .ref (adq3 0), .int 0, .null, .null, .int 0, .null]) (R := fun cI => gi_W2 cI adq1 ++ gi_W2 cI adq2 ++ gi_W2 cI adq3 ++ gi_W4 cI adq4) (ty := (.object "SongThatStays$Text")) (fun cI => by simp) clX5 inUX5 tyX5_ok nmX5 (by decide) rfl rfl lfX5_29 (by decide +kernel) rfl rfl (Nat.le_of_ble_eq_true rfl) dX5_init_50 ?_
  refine gi_aload dX5_init_53 ?_
  refine gi_bipush (v := 6) dX5_init_54 (by decide) ?_
  refine gi_newa (N' := 6) (by decide) (by decide) (by decide) (Nat.le_of_ble_eq_true rfl) (Nat.le_of_ble_eq_true rfl) dX5_init_56 (fun q5 => ?_)
  refine gi_putF (k := 5) (fs := [.ref (adq1 0), .ref (adq2 0), .ref (adq3 0), .int 0, .ref (adq4 0), .null, .int 0, .null]) (R := fun cI => gi_W2 cI adq1 ++ gi_W2 cI adq2 ++ gi_W2 cI adq3 ++ gi_W4 cI adq4 ++ [(q5, .inl (cI, 6, .inl (fun _ => 0)))]) (ty := (.array .int)) (fun cI => by simp) clX5 inUX5 tyX5_ok nmX5 (by decide) rfl rfl lfX5_33 (by decide +kernel) rfl rfl (Nat.le_of_ble_eq_true rfl) dX5_init_58 ?_
  refine gi_aload dX5_init_61 ?_
  refine gi_iconst (v := 0) dX5_init_62 (by decide) ?_
  refine gi_put (k := 6) (fs := [.ref (adq1 0), .ref (adq2 0), .ref (adq3 0), .int 0, .ref (adq4 0), .ref q5, .int 0, .null]) (R := fun cI => gi_W2 cI adq1 ++ gi_W2 cI adq2 ++ gi_W2 cI adq3 ++ gi_W4 cI adq4 ++ [(q5, .inl (cI, 6, .inl (fun _ => 0)))]) (ty := .int) (fun cI => by simp) clX5 inUX5 tyX5_ok nmX5 (by decide) rfl lfX5_37 (by decide +kernel) rfl rfl (Nat.le_of_ble_eq_true rfl) dX5_init_63 ?_
  refine gi_aload dX5_init_66 ?_
  refine gi_bipush (v := 7) dX5_init_67 (by decide) ?_
  refine gi_newa (N' := 7) (by decide) (by decide) (by decide) (Nat.le_of_ble_eq_true rfl) (Nat.le_of_ble_eq_true rfl) dX5_init_69 (fun q6 => ?_)
  refine gi_putF (k := 7) (fs := [.ref (adq1 0), .ref (adq2 0), .ref (adq3 0), .int 0, .ref (adq4 0), .ref q5, .int 0, .null]) (R := fun cI => gi_W2 cI adq1 ++ gi_W2 cI adq2 ++ gi_W2 cI adq3 ++ gi_W4 cI adq4 ++ [(q5, .inl (cI, 6, .inl (fun _ => 0)))] ++ [(q6, .inl (cI, 7, .inl (fun _ => 0)))]) (ty := (.array .int)) (fun cI => by simp) clX5 inUX5 tyX5_ok nmX5 (by decide) rfl rfl lfX5_41 (by decide +kernel) rfl rfl (Nat.le_of_ble_eq_true rfl) dX5_init_71 ?_
  exact gi_ret (ad := fun k => if k = 0 then q0 else if k < 24 then adq1 (k - 1) else if k < 47 then adq2 (k - 24) else if k < 70 then adq3 (k - 47) else if k < 72 then adq4 (k - 70) else if k < 73 then q5 else if k < 74 then q6 else 0) (fun cI => rfl) rfl rfl rfl dX5_init_74
