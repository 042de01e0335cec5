def gl_tm (i : Nat) : Term := Term.string "SongThatStays$Text" (34 + 2 * i)
set_option maxRecDepth 100000 in
set_option maxHeartbeats 4000000 in
theorem gl_str {s : State} {b : Nat} (hts : ∀ w ∈ lw_tbl, w.before #[Value.ref b] s = true) (hgv : (Jvm.Cond.and given_1 narrow_1).before #[Value.ref b] s = true) : ∃ g : Nat → Nat, ∀ ad : Nat → Nat, gw_S (gl_ad ad g) (gl_I s) s s.heap := by
  have hs := flat_of_before _ hgv
  have hA : ∀ a : Nat, a < s.heap.size → ¬ gl_I s a := fun a h => Nat.not_le.mpr h
  obtain ⟨adK, adV, h1, h2⟩ := vk_Sof (s := s) (args := #[Value.ref b]) (N := 2) (tm := gl_tm) (len := gw_len2) (byt := gw_byt2) (A := gl_I s)
    (fun i hi => match i, hi with
      | 0, _ => by decide
      | 1, _ => by decide
      | i + 2, h => absurd h (by omega))
    (fun i hi => match i, hi with
      | 0, _ => hs (Cond.exactly (gl_tm 0) "java/lang/String") (by decide +kernel)
      | 1, _ => hs (Cond.exactly (gl_tm 1) "java/lang/String") (by decide +kernel)
      | i + 2, h => absurd h (by omega))
    (fun i hi => match i, hi with
      | 0, _ => hs (Cond.eq (.field (gl_tm 0) "java/lang/String" "coder" "B") (.int 0)) (by decide +kernel)
      | 1, _ => hs (Cond.eq (.field (gl_tm 1) "java/lang/String" "coder" "B") (.int 0)) (by decide +kernel)
      | i + 2, h => absurd h (by omega))
    (fun i hi => match i, hi with
      | 0, _ => hs (Cond.arrayOf (.field (gl_tm 0) "java/lang/String" "value" "[B") .byte) (by decide +kernel)
      | 1, _ => hs (Cond.arrayOf (.field (gl_tm 1) "java/lang/String" "value" "[B") .byte) (by decide +kernel)
      | i + 2, h => absurd h (by omega))
    (fun i hi => match i, hi with
      | 0, _ => hs (Cond.eq (.length (.field (gl_tm 0) "java/lang/String" "value" "[B")) (.int 6)) (by decide +kernel)
      | 1, _ => hs (Cond.eq (.length (.field (gl_tm 1) "java/lang/String" "value" "[B")) (.int 6)) (by decide +kernel)
      | i + 2, h => absurd h (by omega))
    (fun i hi j hj => match i, hi, j, hj with
      | 0, _, 0, _ => hs (Cond.eq (.elem (.field (gl_tm 0) "java/lang/String" "value" "[B") (.int 0)) (.int 115)) (by decide +kernel)
      | 0, _, 1, _ => hs (Cond.eq (.elem (.field (gl_tm 0) "java/lang/String" "value" "[B") (.int 1)) (.int 108)) (by decide +kernel)
      | 0, _, 2, _ => hs (Cond.eq (.elem (.field (gl_tm 0) "java/lang/String" "value" "[B") (.int 2)) (.int 113)) (by decide +kernel)
      | 0, _, 3, _ => hs (Cond.eq (.elem (.field (gl_tm 0) "java/lang/String" "value" "[B") (.int 3)) (.int 99)) (by decide +kernel)
      | 0, _, 4, _ => hs (Cond.eq (.elem (.field (gl_tm 0) "java/lang/String" "value" "[B") (.int 4)) (.int 106)) (by decide +kernel)
      | 0, _, 5, _ => hs (Cond.eq (.elem (.field (gl_tm 0) "java/lang/String" "value" "[B") (.int 5)) (.int 104)) (by decide +kernel)
      | 1, _, 0, _ => hs (Cond.eq (.elem (.field (gl_tm 1) "java/lang/String" "value" "[B") (.int 0)) (.int 104)) (by decide +kernel)
      | 1, _, 1, _ => hs (Cond.eq (.elem (.field (gl_tm 1) "java/lang/String" "value" "[B") (.int 1)) (.int 119)) (by decide +kernel)
      | 1, _, 2, _ => hs (Cond.eq (.elem (.field (gl_tm 1) "java/lang/String" "value" "[B") (.int 2)) (.int 100)) (by decide +kernel)
      | 1, _, 3, _ => hs (Cond.eq (.elem (.field (gl_tm 1) "java/lang/String" "value" "[B") (.int 3)) (.int 116)) (by decide +kernel)
      | 1, _, 4, _ => hs (Cond.eq (.elem (.field (gl_tm 1) "java/lang/String" "value" "[B") (.int 4)) (.int 98)) (by decide +kernel)
      | 1, _, 5, _ => hs (Cond.eq (.elem (.field (gl_tm 1) "java/lang/String" "value" "[B") (.int 5)) (.int 121)) (by decide +kernel)
      | 0, _, j + 6, h => absurd h (by show ¬ j + 6 < 6; omega)
      | 1, _, j + 6, h => absurd h (by show ¬ j + 6 < 6; omega)
      | i + 2, h, _, _ => absurd h (by omega))
    (fun i j hi hj hij => match i, hi, j, hj with
      | 0, _, 0, _ => absurd rfl hij
      | 0, _, 1, _ => Or.inl (hs (Cond.not (Cond.eq (gl_tm 0) (gl_tm 1))) (by decide +kernel))
      | 1, _, 0, _ => Or.inr (hs (Cond.not (Cond.eq (gl_tm 0) (gl_tm 1))) (by decide +kernel))
      | 1, _, 1, _ => absurd rfl hij
      | i + 2, h, _, _ => absurd h (by omega)
      | 0, _, j + 2, h => absurd h (by omega)
      | 1, _, j + 2, h => absurd h (by omega)) hA
  have hz : va_Z "java/lang/String" "COMPACT_STRINGS" "Z" (.int 1) (gl_I s) s s.heap := va_Zof (hts _ (tt_2 20 (by decide +kernel))) (hts _ (tt_1 8 (by decide +kernel))) (va_eqt (hs (Cond.eq (Term.static "java/lang/String" "COMPACT_STRINGS" "Z") (.int 1)) (by decide +kernel))) hA
  refine ⟨fun k => if k < 1010 then adK (k - 1000) else adV (k - 1010), fun ad => ?_⟩
  have eK : ∀ i, i < 2 → gl_ad ad (fun k => if k < 1010 then adK (k - 1000) else adV (k - 1010)) (1000 + i) = adK i := fun i hi => by
    unfold gl_ad
    rw [if_neg (by omega)]
    dsimp only
    rw [if_pos (by omega), show 1000 + i - 1000 = i by omega]
  have eV : ∀ i, i < 2 → gl_ad ad (fun k => if k < 1010 then adK (k - 1000) else adV (k - 1010)) (1010 + i) = adV i := fun i hi => by
    unfold gl_ad
    rw [if_neg (by omega)]
    dsimp only
    rw [if_neg (by omega), show 1010 + i - 1010 = i by omega]
  refine ⟨⟨fun i hi => ?_, fun i j hi hj e => h1.2 i j hi hj ?_⟩, ?_, ?_, hz⟩
  · obtain ⟨a1, a2, a3, a4⟩ := h1.1 i hi
    dsimp only
    rw [eK i hi, eV i hi]
    exact ⟨a1, a2, a3, a4⟩
  · dsimp only at e
    rw [eK i hi, eK j hj] at e
    exact e
  · rw [eK 0 (by omega)]
    exact vk_R.of (hts _ (tt_2 5 (by decide +kernel))) (h2 0 (by omega))
  · rw [eK 1 (by omega)]
    exact vk_R.of (hts _ (tt_2 6 (by decide +kernel))) (h2 1 (by omega))
theorem va_P.cut {D : va_G} {cl : List vw_C} {w1 w2 : va_W} {H : Heap} (h : va_P D cl (w1 ++ w2) H) : va_P D cl w1 H ∧ va_P D cl w2 H :=
  ⟨fun k q hq => h k q (by rw [List.getElem?_append_left (List.getElem?_eq_some_iff.mp hq).1]; exact hq), fun k q hq => h (w1.length + k) q (by rw [List.getElem?_append_right (by omega), Nat.add_sub_cancel_left]; exact hq)⟩
theorem va_D.cut {A : Nat → Prop} {w1 w2 : va_W} (h : va_D A (w1 ++ w2)) : va_D A w1 ∧ va_D A w2 ∧ ∀ (i j : Nat) (p q : Nat × va_E), w1[i]? = some p → w2[j]? = some q → p.1 ≠ q.1 := by
  have g1 : ∀ (k : Nat) (q : Nat × va_E), w1[k]? = some q → (w1 ++ w2)[k]? = some q := fun k q hq => by rw [List.getElem?_append_left (List.getElem?_eq_some_iff.mp hq).1]; exact hq
  have g2 : ∀ (k : Nat) (q : Nat × va_E), w2[k]? = some q → (w1 ++ w2)[w1.length + k]? = some q := fun k q hq => by rw [List.getElem?_append_right (by omega), Nat.add_sub_cancel_left]; exact hq
  refine ⟨⟨fun i j p q hi hj e => h.1 i j p q (g1 i p hi) (g1 j q hj) e, fun k q hq => h.2 k q (g1 k q hq)⟩, ⟨fun i j p q hi hj e => ?_, fun k q hq => h.2 _ q (g2 k q hq)⟩, fun i j p q hi hj e => ?_⟩
  · have := h.1 _ _ p q (g2 i p hi) (g2 j q hj) e
    omega
  · have := h.1 _ _ p q (g1 i p hi) (g2 j q hj) e
    have := (List.getElem?_eq_some_iff.mp hi).1
    omega
set_option maxRecDepth 100000 in
set_option maxHeartbeats 4000000 in
/-- YOUR PART: from the entry, for every script of at most 2048 ints, the law comes to its end with true -/
theorem whole_start {p : Program} {e : Env} {s : State} {m : MethodId} {below : List Frame} {meth : Method} {c : Code} (l : Launch) (hflags : l.flags = flags0) {b L : Nat} {xs : Nat → Int32} (hL : L ≤ 2048) (C0 : lw_At p s m meth c b L xs) : W p l e room_1 s m #[Value.ref b] below meth c s.heap [] 0 0 (lw_Z below #[Value.ref b] s) (entryFrame m ([Value.ref b] : List Value).toArray 4) := by
  obtain ⟨hx, hb, hr, hml, hown, hts, hX, hbl, hlocks, hgv⟩ := id C0
  have hw : ∀ w ∈ gw_W0, w.before #[Value.ref b] s = true := fun w h => hts w (List.mem_filter.mp h).1
  have hN : gw_N s := gl_nest hts
  obtain ⟨D, cI, hK⟩ := gl_K hw
  obtain ⟨g, hg⟩ := gl_str hts hgv
  have hA : ∀ q : Nat, s.heap.size ≤ q → gl_I s q := fun _ h => h
  have hS : va_S (gl_I s) s.heap s.heap [] := va_S.rf
  have hP : va_P D vwCl [] s.heap := fun k q h => by simp at h
  have hD : va_D (gl_I s) [] := ⟨fun i j p q h => by simp at h, fun k q h => by simp at h⟩
  have hl := lv_entry ([.ref b]) (n := 4) (Nat.le_of_ble_eq_true rfl)
  rw [lg_entry_eq]
  generalize (lg_sl ([.ref b]) ++ List.replicate (4 - (lg_sl ([.ref b])).length) Slot.unset).toArray = ls at hl ⊢
  have hl : lv_has ls 4 [(0, .ref b)] := hl
  have hown : s.vm.findClass RL = some m.cls := hown
  refine va_new (ci := 5) (fs := [.null, .null, .null, .int 0, .null, .null, .int 0, .null]) (C := RX5) (T := TX5) (N := 8) hx hb hw inUX5 tyX5 tyX5_ok hown (hw _ lcL_7) (hw _ instX5) (hw _ mkX5_init.2.2) hK hP hD hS hA rfl (by intro j hj; match j, hj with | 0, _ => rfl | 1, _ => rfl | 2, _ => rfl | 3, _ => rfl | 4, _ => rfl | 5, _ => rfl | 6, _ => rfl | 7, _ => rfl | j + 8, hj => omega) (Nat.le_of_ble_eq_true rfl) (Nat.le_of_ble_eq_true rfl) dL_law_0 (fun q0 H hP hD hS => ?_)
  refine lv_dup hx hb dL_law_3 rfl ?_
  have hFc : ∀ z, gi_A q0 5 [.null, .null, .null, .int 0, .null, .null, .int 0, .null] H.size z → gl_I s z := va_free (wc := [(q0, .inr (5, [.null, .null, .null, .int 0, .null, .null, .int 0, .null]))]) hD hS hA [0] rfl
  refine va_callv (va_runI (As := []) (rest := [.ref q0]) ⟨hx, hb, hml, hown, hw⟩ (gi_X5 l D cI H.size q0) (cwI 0 hw (gw_giU mkX5_init.1) rfl rfl rfl (hw _ mkX5_init.2.2) (hw _ lmL_9) (hw _ mkX5_init.2.1) rfl ⟨by decide +kernel, by decide +kernel, by decide +kernel⟩ ⟨Nat.le_of_ble_eq_true rfl, Nat.le_of_ble_eq_true rfl⟩) ⟨gi_blind, fun U hU hW => ⟨rfl, by rw [hU], by rw [hU]; exact hP, va_K.moved hW.alike hK, gw_N.warm hW hN⟩⟩ rfl rfl hl.1 rfl (lv_room (Nat.le_of_ble_eq_true rfl)) dL_law_4 ⟨Nat.le_of_ble_eq_true rfl, Nat.le_of_ble_eq_true rfl⟩) hS (fun z _ h => hFc z h) hFc (fun ad t H1 locs ht hvm hw0 hB hz1 hk1 hS => ?_)
  obtain ⟨hPy, hDy⟩ := hB
  rw [ht] at hPy
  obtain ⟨hP5, hD5⟩ := gi_join (wr := []) hP hD hk1 hFc hPy hDy
  have hw0 : ad 0 = q0 := hw0
  subst hw0
  clear hP hD
  generalize H1 = H at hP5 hS ⊢
  have hP : va_P D vwCl (gi_W5 cI ad) H := hP5
  have hD : va_D (gl_I s) (gi_W5 cI ad) := hD5
  refine lv_astore_n (lv' := [(1, .ref (ad 0)), (0, .ref b)]) hx hb dL_law_7 rfl hl (by decide) rfl (fun ls hl => ?_)
  refine va_new (ci := 6) (fs := [.null, .null, .null, .null, .null, .int 0, .null, .null, .null, .null, .null, .null, .null, .int 0, .int 0, .null, .int 0]) (C := RX6) (T := TX6) (N := 17) hx hb hw inUX6 tyX6 tyX6_ok hown (hw _ lcL_10) (hw _ instX6) (hw _ mkX6_init.2.2) hK hP hD hS hA rfl (by intro j hj; match j, hj with | 0, _ => rfl | 1, _ => rfl | 2, _ => rfl | 3, _ => rfl | 4, _ => rfl | 5, _ => rfl | 6, _ => rfl | 7, _ => rfl | 8, _ => rfl | 9, _ => rfl | 10, _ => rfl | 11, _ => rfl | 12, _ => rfl | 13, _ => rfl | 14, _ => rfl | 15, _ => rfl | 16, _ => rfl | j + 17, hj => omega) (Nat.le_of_ble_eq_true rfl) (Nat.le_of_ble_eq_true rfl) dL_law_8 (fun q1 H hP hD hS => ?_)
  refine lv_dup hx hb dL_law_11 rfl ?_
  have hPc : va_P D vwCl [(q1, .inr (6, [.null, .null, .null, .null, .null, .int 0, .null, .null, .null, .null, .null, .null, .null, .int 0, .int 0, .null, .int 0]))] H := (va_P.cut hP).2
  have hFc : ∀ z, gi_A q1 6 [.null, .null, .null, .null, .null, .int 0, .null, .null, .null, .null, .null, .null, .null, .int 0, .int 0, .null, .int 0] H.size z → gl_I s z := by
    intro z hz
    rcases hz with ⟨k, e, hz⟩ | hz
    · exact (va_D.cut hD).2.1.2 k (z, e) hz
    · exact Nat.le_trans hS.1 hz
  refine va_callv (va_runI (As := []) (rest := [.ref q1]) ⟨hx, hb, hml, hown, hw⟩ (gi_X6 l D cI H.size q1) (cwI 0 hw (gw_giU mkX6_init.1) rfl rfl rfl (hw _ mkX6_init.2.2) (hw _ lmL_12) (hw _ mkX6_init.2.1) rfl ⟨by decide +kernel, by decide +kernel, by decide +kernel⟩ ⟨Nat.le_of_ble_eq_true rfl, Nat.le_of_ble_eq_true rfl⟩) ⟨gi_blind, fun U hU hW => ⟨rfl, by rw [hU], by rw [hU]; exact hPc, va_K.moved hW.alike hK, gw_N.warm hW hN⟩⟩ rfl rfl hl.1 rfl (lv_room (Nat.le_of_ble_eq_true rfl)) dL_law_12 ⟨Nat.le_of_ble_eq_true rfl, Nat.le_of_ble_eq_true rfl⟩) hS (fun z _ h => hFc z h) hFc (fun ad2 t H1 locs ht hvm hw0 hB hz1 hk1 hS => ?_)
  obtain ⟨hPy, hDy⟩ := hB
  rw [ht] at hPy
  obtain ⟨hP6, hD6⟩ := gi_join hP hD hk1 hFc hPy hDy
  have hw0 : ad2 0 = q1 := hw0
  subst hw0
  generalize H1 = H at hP6 hS ⊢
  refine lv_astore_n (lv' := [(2, .ref (ad2 0)), (1, .ref (ad 0)), (0, .ref b)]) hx hb dL_law_15 rfl hl (by decide) rfl (fun ls hl => ?_)
  refine lv_iconst (v := 0) hx hb dL_law_16 (by decide) ?_
  refine lv_istore_n (lv' := [(3, .int 0), (2, .ref (ad2 0)), (1, .ref (ad 0)), (0, .ref b)]) hx hb dL_law_17 rfl hl (by decide) rfl (fun ls hl => ?_)
  obtain ⟨hPC, hPM⟩ := va_P.cut hP6
  obtain ⟨hDC, hDM, hX2⟩ := va_D.cut hD6
  have hd : gl_D s cI (gl_ad ad g) (gl_ad ad2 g) := by
    refine ⟨by rw [gl_wsC]; exact hDC, by rw [gl_wsM]; exact hDM, fun c c' h1 h2 => ?_⟩
    rw [gl_ad_lt (by omega), gl_ad_lt (by omega)]
    exact hX2 c c' _ _ (gw_get (V := vC) h1) (gw_get (V := vM) h2)
  have hok : gl_OK b L xs (gl_ad ad g) (gl_ad ad2 g) (p, e, s, m, below, meth, c, D, cI) := ⟨hx, hb, hml, hown, hw, hr, hlocks, hK, hN, ⟨hg ad, hg ad2⟩, hX, hbl, hL⟩
  have hlk : gw_lok ls 4 (gl_ls b (gl_ad ad g) (gl_ad ad2 g) 0) := by
    refine ⟨hl.1, hl.2.1, fun i v hi => ?_⟩
    match i, hi with
    | 0, hi => cases hi; exact ⟨hl.2.2 (0, .ref b) (by simp), rfl⟩
    | 1, hi => cases hi; exact ⟨hl.2.2 (1, .ref (ad 0)) (by simp), rfl⟩
    | 2, hi => cases hi; exact ⟨hl.2.2 (2, .ref (ad2 0)) (by simp), rfl⟩
    | 3, hi => cases hi; exact ⟨hl.2.2 (3, .int 0) (by simp), rfl⟩
    | i + 4, hi => simp at hi
  exact gl_loop (X := (p, e, s, m, below, meth, c, D, cI)) hL (L + 4) 0 gi_hC gi_hM (by omega) (by omega) gl_R0 hok hd H _ ls (by rw [gl_wsC]; exact hPC) (by rw [gl_wsM]; exact hPM) hS hlk
