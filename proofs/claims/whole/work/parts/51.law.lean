/-! ## THE WALK OF THE LAW: two worlds side by side, and the script -/
abbrev gl_X : Type := Program × Env × State × MethodId × List Frame × Method × Code × va_G × ClassId
def gl_I (s : State) : Nat → Prop := fun q => s.heap.size ≤ q
def gl_OK (b L : Nat) (xs : Nat → Int32) (aC aM : Nat → Nat) : gl_X → Prop
  | (p, e, s, m, below, meth, c, D, cI) => p.tables.exec = Jvm.exec ∧ c.code = code ∧ c.maxLocals = 4 ∧ s.vm.findClass RL = some m.cls ∧ (∀ w ∈ gw_W0, w.before #[Value.ref b] s = true) ∧ meth.sig.returnType = ret ∧ meth.locks = false ∧ va_K D vwCl [(cI, .int)] s ∧ gw_N s ∧ (gw_S aC (gl_I s) s s.heap ∧ gw_S aM (gl_I s) s s.heap) ∧ va_X b L xs s s.heap ∧ b < s.heap.size ∧ L ≤ 2048
def gl_D (s : State) (cI : ClassId) (aC aM : Nat → Nat) : Prop := va_D (gl_I s) (gw_ws vC cI aC gi_hC) ∧ va_D (gl_I s) (gw_ws vM cI aM gi_hM) ∧ ∀ c c', c < 74 → c' < 14 → aC c ≠ aM c'
def gl_G (l : Launch) (b L : Nat) (xs : Nat → Int32) (aC aM : Nat → Nat) (X : gl_X) (hC hM : gw_H) (pc : Nat) (ls : gw_L) (st : List Value) : Prop :=
  match X with
  | (p, e, s, m, below, meth, c, D, cI) => gl_OK b L xs aC aM (p, e, s, m, below, meth, c, D, cI) → gl_D s cI aC aM → ∀ (H : Heap) (locs : List Loc) (lsA : Array Slot), va_P D vwCl (gw_ws vC cI aC hC) H → va_P D vwCl (gw_ws vM cI aM hM) H → va_S (gl_I s) s.heap H locs → gw_lok lsA 4 ls →
      W p l e room_1 s m #[Value.ref b] below meth c H locs 88 1002 (lw_Z below #[Value.ref b] s) (F0 m pc lsA st)
theorem gw_S.app {ad : Nat → Nat} {A : Nat → Prop} {U : State} {H : Heap} (h : gw_S ad A U H) : gw_S ad A U H := h
section GL
variable {l : Launch} {b L : Nat} {xs : Nat → Int32} {aC aM : Nat → Nat} {X : gl_X} {hC hM : gw_H} {pc : Nat} {ls : gw_L} {st : List Value}
/-- a row of the kit that keeps the heap -/
theorem gl_keep {pc' : Nat} {st' : List Value} (hr : ∀ (p : Program) (e : Env) (s : State) (m : MethodId) (below : List Frame) (meth : Method) (c : Code) (D : va_G) (cI : ClassId), gl_OK b L xs aC aM (p, e, s, m, below, meth, c, D, cI) → ∀ (H : Heap) (locs : List Loc) (lsA : Array Slot) (Q : State → Prop), va_S (gl_I s) s.heap H locs → gw_lok lsA 4 ls → W p l e room_1 s m #[Value.ref b] below meth c H locs 88 1002 Q (F0 m pc' lsA st') → W p l e room_1 s m #[Value.ref b] below meth c H locs 88 1002 Q (F0 m pc lsA st))
    (k : gl_G l b L xs aC aM X hC hM pc' ls st') : gl_G l b L xs aC aM X hC hM pc ls st := by
  obtain ⟨p, e, s, m, below, meth, c, D, cI⟩ := X
  intro ok hd H locs lsA hP hQ hS hl
  exact hr p e s m below meth c D cI ok H locs lsA _ hS hl (k ok hd H locs lsA hP hQ hS hl)
theorem gl_iconst {n : Int} {v : Int32} (hdg : decode code pc = .ok (.iconst n, 1)) (hv : Int32.ofInt n = v) (k : gl_G l b L xs aC aM X hC hM (pc + 1) ls (.int v :: st)) : gl_G l b L xs aC aM X hC hM pc ls st :=
  gl_keep (fun _ _ _ _ _ _ _ _ _ ok _ _ _ _ _ _ w => lv_iconst ok.1 ok.2.1 hdg hv w) k
theorem gl_bipush {n : Int} {v : Int32} (hdg : decode code pc = .ok (.bipush n, 2)) (hv : (Int8.ofInt n).toInt32 = v) (k : gl_G l b L xs aC aM X hC hM (pc + 2) ls (.int v :: st)) : gl_G l b L xs aC aM X hC hM pc ls st :=
  gl_keep (fun _ _ _ _ _ _ _ _ _ ok _ _ _ _ _ _ w => lv_bipush ok.1 ok.2.1 hdg hv w) k
theorem gl_iload_n {k : Fin 4} {i : Nat} {x : Int32} (hdg : decode code pc = .ok (.iload_n k, 1)) (hi : (k : Nat) = i) (hx : ls[i]? = some (some (.int x))) (kk : gl_G l b L xs aC aM X hC hM (pc + 1) ls (.int x :: st)) : gl_G l b L xs aC aM X hC hM pc ls st :=
  gl_keep (fun _ _ _ _ _ _ _ _ _ ok _ _ _ _ _ hl w => lv_iload_n ok.1 ok.2.1 hdg hi (hl.2.2 _ _ hx).1 w) kk
theorem gl_aload_n {k : Fin 4} {i : Nat} {x : Nat} (hdg : decode code pc = .ok (.aload_n k, 1)) (hi : (k : Nat) = i) (hx : ls[i]? = some (some (.ref x))) (kk : gl_G l b L xs aC aM X hC hM (pc + 1) ls (.ref x :: st)) : gl_G l b L xs aC aM X hC hM pc ls st :=
  gl_keep (fun _ _ _ _ _ _ _ _ _ ok _ _ _ _ _ hl w => lv_aload_n ok.1 ok.2.1 hdg hi (hl.2.2 _ _ hx).1 w) kk
theorem gl_iadd {x y : Int32} (hdg : decode code pc = .ok (.iadd, 1)) (kk : gl_G l b L xs aC aM X hC hM (pc + 1) ls (.int (x + y) :: st)) : gl_G l b L xs aC aM X hC hM pc ls (.int y :: .int x :: st) :=
  gl_keep (fun _ _ _ _ _ _ _ _ _ ok _ _ _ _ _ _ w => lv_iadd ok.1 ok.2.1 hdg w) kk
theorem gl_isub {x y : Int32} (hdg : decode code pc = .ok (.isub, 1)) (kk : gl_G l b L xs aC aM X hC hM (pc + 1) ls (.int (x - y) :: st)) : gl_G l b L xs aC aM X hC hM pc ls (.int y :: .int x :: st) :=
  gl_keep (fun _ _ _ _ _ _ _ _ _ ok _ _ _ _ _ _ w => lv_isub ok.1 ok.2.1 hdg w) kk
theorem gl_iand {x y : Int32} (hdg : decode code pc = .ok (.iand, 1)) (kk : gl_G l b L xs aC aM X hC hM (pc + 1) ls (.int (x &&& y) :: st)) : gl_G l b L xs aC aM X hC hM pc ls (.int y :: .int x :: st) :=
  gl_keep (fun _ _ _ _ _ _ _ _ _ ok _ _ _ _ _ _ w => lv_iand ok.1 ok.2.1 hdg w) kk
theorem gl_goto {off : Int} {tgt : Nat} (hdg : decode code pc = .ok (.goto off, 3)) (ht : (pc : Int) + off = (tgt : Int)) (kk : gl_G l b L xs aC aM X hC hM tgt ls st) : gl_G l b L xs aC aM X hC hM pc ls st :=
  gl_keep (fun _ _ _ _ _ _ _ _ _ ok _ _ _ _ _ _ w => lv_goto ok.1 ok.2.1 hdg ht w) kk
theorem gl_tin {dflt lo' hi : Int} {offs : Array Int} {len : Nat} {x k : Int32} {off : Int} {tgt : Nat} (hdg : decode code pc = .ok (.tableswitch dflt lo' hi offs, len)) (hx : x = k) (h1 : ¬ k.toInt < lo') (h2 : ¬ hi < k.toInt) (ho : offs[(k.toInt - lo').toNat]? = some off) (ht : (pc : Int) + off = (tgt : Int)) (kk : gl_G l b L xs aC aM X hC hM tgt ls st) : gl_G l b L xs aC aM X hC hM pc ls (.int x :: st) := by
  subst hx
  exact gl_keep (fun _ _ _ _ _ _ _ _ _ ok _ _ _ _ _ _ w => lv_tableIn ok.1 ok.2.1 hdg h1 h2 ho ht w) kk
theorem gl_tout {dflt lo' hi : Int} {offs : Array Int} {len : Nat} {x : Int32} {tgt : Nat} (hdg : decode code pc = .ok (.tableswitch dflt lo' hi offs, len)) (h1 : x.toInt < lo' ∨ hi < x.toInt) (ht : (pc : Int) + dflt = (tgt : Int)) (kk : gl_G l b L xs aC aM X hC hM tgt ls st) : gl_G l b L xs aC aM X hC hM pc ls (.int x :: st) :=
  gl_keep (fun _ _ _ _ _ _ _ _ _ ok _ _ _ _ _ _ w => lv_tableOut ok.1 ok.2.1 hdg h1 ht w) kk
theorem gl_notA {s : State} {b : Nat} (h : b < s.heap.size) : ¬ gl_I s b := Nat.not_le.mpr h
theorem gl_slen (hdg : decode code pc = .ok (.arraylength, 1)) (kk : gl_G l b L xs aC aM X hC hM (pc + 1) ls (.int (Int32.ofNat L) :: st)) : gl_G l b L xs aC aM X hC hM pc ls (.ref b :: st) :=
  gl_keep (fun _ _ _ _ _ _ _ _ _ ok _ _ _ _ hS _ w => va_slen ok.1 ok.2.1 ok.2.2.2.2.2.2.2.2.2.2.1 ok.2.2.2.2.2.2.2.2.2.2.2.1 (gl_notA ok.2.2.2.2.2.2.2.2.2.2.2.1) hS hdg w) kk
theorem gl_sld {i : Int32} (hin : vp_in i L) (hdg : decode code pc = .ok (.iaload, 1)) (kk : gl_G l b L xs aC aM X hC hM (pc + 1) ls (.int (xs i.toNatClampNeg) :: st)) : gl_G l b L xs aC aM X hC hM pc ls (.int i :: .ref b :: st) :=
  gl_keep (fun _ _ _ _ _ _ _ _ _ ok _ _ _ _ hS _ w => va_sld ok.1 ok.2.1 ok.2.2.2.2.2.2.2.2.2.2.1 ok.2.2.2.2.2.2.2.2.2.2.2.1 (gl_notA ok.2.2.2.2.2.2.2.2.2.2.2.1) hS hin hdg w) kk
theorem gl_icmp_eq {x y : Int32} {off : Int} {tgt : Nat} (hdg : decode code pc = .ok (.if_icmp .eq off, 3)) (ht : (pc : Int) + off = (tgt : Int)) (kt : x = y → gl_G l b L xs aC aM X hC hM tgt ls st) (kf : ¬ x = y → gl_G l b L xs aC aM X hC hM (pc + 3) ls st) : gl_G l b L xs aC aM X hC hM pc ls (.int y :: .int x :: st) := by
  obtain ⟨p, e, s, m, below, meth, c, D, cI⟩ := X
  intro ok hd H locs lsA hP hQ hS hl
  exact lv_icmp_eq ok.1 ok.2.1 hdg ht (fun q => kt q ok hd H locs lsA hP hQ hS hl) (fun q => kf q ok hd H locs lsA hP hQ hS hl)
theorem gl_icmp_gt {x y : Int32} {off : Int} {tgt : Nat} (hdg : decode code pc = .ok (.if_icmp .gt off, 3)) (ht : (pc : Int) + off = (tgt : Int)) (kt : y < x → gl_G l b L xs aC aM X hC hM tgt ls st) (kf : ¬ y < x → gl_G l b L xs aC aM X hC hM (pc + 3) ls st) : gl_G l b L xs aC aM X hC hM pc ls (.int y :: .int x :: st) := by
  obtain ⟨p, e, s, m, below, meth, c, D, cI⟩ := X
  intro ok hd H locs lsA hP hQ hS hl
  exact lv_icmp_gt ok.1 ok.2.1 hdg ht (fun q => kt q ok hd H locs lsA hP hQ hS hl) (fun q => kf q ok hd H locs lsA hP hQ hS hl)
theorem gl_istore_n {k : Fin 4} {i : Nat} {x : Int32} {ls' : gw_L} (hdg : decode code pc = .ok (.istore_n k, 1)) (hi : (k : Nat) = i) (hn : i < 4) (hls : ls.set i (some (.int x)) = ls') (kk : gl_G l b L xs aC aM X hC hM (pc + 1) ls' st) : gl_G l b L xs aC aM X hC hM pc ls (.int x :: st) := by
  obtain ⟨p, e, s, m, below, meth, c, D, cI⟩ := X
  intro ok hd H locs lsA hP hQ hS hl
  exact lv_istore_n ok.1 ok.2.1 hdg hi hl.has hn rfl (fun lsB hb => kk ok hd H locs lsB hP hQ hS (hls ▸ hl.put rfl hb))
theorem gl_iinc {i : Nat} {n : Int} {x v : Int32} {ls' : gw_L} (hdg : decode code pc = .ok (.iinc i n, 3)) (hx : ls[i]? = some (some (.int x))) (hv : x + Int32.ofInt n = v) (hn : i < 4) (hls : ls.set i (some (.int v)) = ls') (kk : gl_G l b L xs aC aM X hC hM (pc + 3) ls' st) : gl_G l b L xs aC aM X hC hM pc ls st := by
  obtain ⟨p, e, s, m, below, meth, c, D, cI⟩ := X
  intro ok hd H locs lsA hP hQ hS hl
  obtain ⟨k, hk⟩ := List.getElem?_of_mem (gw_lvm.mpr hx)
  exact lv_iinc ok.1 ok.2.1 hdg hl.has hk hv hn rfl (fun lsB hb => kk ok hd H locs lsB hP hQ hS (hls ▸ hl.put rfl hb))
theorem gl_end (hdg : decode code pc = .ok (.ireturn, 1)) : gl_G l b L xs aC aM X hC hM pc ls [.int 1] := by
  obtain ⟨p, e, s, m, below, meth, c, D, cI⟩ := X
  intro ok hd H locs lsA hP hQ hS hl
  exact va_forget (fun q hq => hS.2.2 q hq) (lw_ret ok.1 ok.2.1 ok.2.2.2.2.2.1 ok.2.2.2.2.2.2.1 hdg)
/-- strings, seen from a call at the heap H -/
theorem gl_E {ad : Nat → Nat} {N : Nat} {s U : State} {H : Heap} {locs : List Loc} (hN : gw_N s) (hZ : gw_S ad (gl_I s) s s.heap) (hS : va_S (gl_I s) s.heap H locs) (hA : ∀ c, c < N → gl_I s (ad c)) (hU : U.heap = H) (hW : s.WarmedH U.vm) : gw_E ad (gw_A N ad H.size) U U.heap := by
  refine ⟨hN.warm hW, ?_⟩
  rw [hU]
  refine ((hZ.kept hS.2.1).warm hW).narrow (fun q hq => ?_)
  rcases hq with ⟨c, hc, rfl⟩ | hq
  · exact hA c hc
  · exact Nat.le_trans hS.1 hq
theorem gl_inV {V : gw_W} {cI : ClassId} {ad : Nat → Nat} {h : gw_H} {A : Nat → Prop} (hD : va_D A (gw_ws V cI ad h)) : ∀ c, c < V.1 → A (ad c) := fun c hc => hD.2 c (ad c, V.2 cI ad (h c) c) (gw_get hc)
theorem gl_ltV {V : gw_W} {cI : ClassId} {ad : Nat → Nat} {h : gw_H} {D : va_G} {H : Heap} (hP : va_P D vwCl (gw_ws V cI ad h) H) : ∀ c, c < V.1 → ad c < H.size := fun c hc => (hP c (ad c, V.2 cI ad (h c) c) (gw_get hc)).lt
/-- the other world stays behind a call -/
theorem gl_stay {V V' : gw_W} {cI : ClassId} {ad ad' : Nat → Nat} {h : gw_H} {D : va_G} {H H1 : Heap} (hP : va_P D vwCl (gw_ws V' cI ad' h) H) (hx : ∀ c c', c < V.1 → c' < V'.1 → ad c ≠ ad' c') (hk : ∀ q : Nat, q < H.size → ¬ gw_A V.1 ad H.size q → H1[q]? = H[q]?) : va_P D vwCl (gw_ws V' cI ad' h) H1 := by
  refine hP.kept (fun k q hq => ?_)
  obtain ⟨h1, rfl⟩ := gw_mem hq
  have hl := gl_ltV hP k h1
  refine hk _ hl (fun z => ?_)
  rcases z with ⟨c, hc, e⟩ | z
  · exact hx c k hc h1 e.symm
  · exact absurd hl (Nat.not_lt.mpr z)
theorem gl_preV {V : gw_W} {cI : ClassId} {ad : Nat → Nat} {h h0 : gw_H} {D : va_G} {s : State} {H : Heap} {locs : List Loc} {As : List Value} (hP : va_P D vwCl (gw_ws V cI ad h) H) (hD : va_D (gl_I s) (gw_ws V cI ad h0)) (hK : va_K D vwCl [(cI, .int)] s) (hN : gw_N s) (hZ : gw_S ad (gl_I s) s s.heap) (hS : va_S (gl_I s) s.heap H locs) (U : State) (hU : U.heap = H) (hW : s.WarmedH U.vm) : va_Pc As (gw_Pre V ad D cI h H.size) As.toArray U :=
  ⟨rfl, by rw [hU], by rw [hU]; exact hP, va_K.moved hW.alike hK, (gw_D h hD).weaken (fun _ _ _ _ => trivial), gl_E hN hZ hS (gl_inV hD) hU hW⟩
theorem gl_freeV {V : gw_W} {cI : ClassId} {ad : Nat → Nat} {h0 : gw_H} {s : State} {H : Heap} {locs : List Loc} (hD : va_D (gl_I s) (gw_ws V cI ad h0)) (hS : va_S (gl_I s) s.heap H locs) : ∀ q, gw_A V.1 ad H.size q → gl_I s q := fun q hq => by
  rcases hq with ⟨c, hc, rfl⟩ | hq
  · exact gl_inV hD c hc
  · exact Nat.le_trans hS.1 hq
theorem gl_callC {k idx yn yf ylo : Nat} {y : MethodName} {yc : ByteArray} {As rest : List Value} {Qc : Int32 → gw_H → Prop} (hC0 : gw_C l y yc yn (some .int) yf ylo vC aC (.ref (aC 0) :: As) hC Qc) (hm : gw_MI y yc yn (some .int) RX5 k) (hlk : Cond.methodLink RL idx y ∈ gw_W0) (hn : As.length = k) (hst : st = As.reverse ++ .ref (aC 0) :: rest) (hR : yf + 1 ≤ 13 ∧ 8 + (yn + 11) + ylo ≤ 498) (hw8 : (rest.map fun v => v.category).sum ≤ 8) (hdg : decode code pc = .ok (.invokevirtual idx, 3))
    (kk : ∀ (r : Int32) (h' : gw_H), Qc r h' → gl_G l b L xs aC aM X h' hM (pc + 3) ls (.int r :: rest)) : gl_G l b L xs aC aM X hC hM pc ls st := by
  obtain ⟨p, e, s, m, below, meth, c, D, cI⟩ := X
  intro ok hd H locs lsA hP hQ hS hl
  have hGI : GoodIn gw_W0 (wsV RL idx RX5 y (gw_U y yc yn (some .int))) := gw_gi4 (gw_giU hm.1) hlk hm.2.1 hm.2.2.1 hm.2.2.2.1
  exact va_calli (va_runV (As := As) (rest := rest) ⟨ok.1, ok.2.1, ok.2.2.1, ok.2.2.2.1, ok.2.2.2.2.1⟩ (hC0 D cI H.size) (cwV (C := RX5) k ok.2.2.2.2.1 hGI rfl rfl rfl hm.2.2.2.2 ⟨hR.1, hR.2⟩) ⟨gw_blind, va_recv ok.2.2.2.2.2.2.2.1 hP clX5 (oX5.at cI hC), fun U hU hW => gl_preV (As := .ref (aC 0) :: As) hP hd.1 ok.2.2.2.2.2.2.2.1 ok.2.2.2.2.2.2.2.2.1 ok.2.2.2.2.2.2.2.2.2.1.1 hS U hU hW⟩ rfl hn hl.1 hst (gw_room hw8) hdg ⟨Nat.le_of_ble_eq_true rfl, Nat.le_of_ble_eq_true rfl⟩) hS (fun q _ hq => gl_freeV hd.1 hS q hq) (gl_freeV hd.1 hS) (fun r u t H1 locs1 ht hvm hw hB hz hk hS1 => by
    subst ht
    exact kk r u hw ok hd t.heap locs1 lsA hB (gl_stay hQ hd.2.2 hk) hS1 hl)
theorem gl_callM {k idx yn yf ylo : Nat} {y : MethodName} {yc : ByteArray} {As rest : List Value} {Qc : Int32 → gw_H → Prop} (hC0 : gw_C l y yc yn (some .int) yf ylo vM aM (.ref (aM 0) :: As) hM Qc) (hm : gw_MI y yc yn (some .int) RX6 k) (hlk : Cond.methodLink RL idx y ∈ gw_W0) (hn : As.length = k) (hst : st = As.reverse ++ .ref (aM 0) :: rest) (hR : yf + 1 ≤ 13 ∧ 8 + (yn + 11) + ylo ≤ 498) (hw8 : (rest.map fun v => v.category).sum ≤ 8) (hdg : decode code pc = .ok (.invokevirtual idx, 3))
    (kk : ∀ (r : Int32) (h' : gw_H), Qc r h' → gl_G l b L xs aC aM X hC h' (pc + 3) ls (.int r :: rest)) : gl_G l b L xs aC aM X hC hM pc ls st := by
  obtain ⟨p, e, s, m, below, meth, c, D, cI⟩ := X
  intro ok hd H locs lsA hP hQ hS hl
  have hGI : GoodIn gw_W0 (wsV RL idx RX6 y (gw_U y yc yn (some .int))) := gw_gi4 (gw_giU hm.1) hlk hm.2.1 hm.2.2.1 hm.2.2.2.1
  exact va_calli (va_runV (As := As) (rest := rest) ⟨ok.1, ok.2.1, ok.2.2.1, ok.2.2.2.1, ok.2.2.2.2.1⟩ (hC0 D cI H.size) (cwV (C := RX6) k ok.2.2.2.2.1 hGI rfl rfl rfl hm.2.2.2.2 ⟨hR.1, hR.2⟩) ⟨gw_blind, va_recv ok.2.2.2.2.2.2.2.1 hQ clX6 (oX6.at cI hM), fun U hU hW => gl_preV (As := .ref (aM 0) :: As) hQ hd.2.1 ok.2.2.2.2.2.2.2.1 ok.2.2.2.2.2.2.2.2.1 ok.2.2.2.2.2.2.2.2.2.1.2 hS U hU hW⟩ rfl hn hl.1 hst (gw_room hw8) hdg ⟨Nat.le_of_ble_eq_true rfl, Nat.le_of_ble_eq_true rfl⟩) hS (fun q _ hq => gl_freeV hd.2.1 hS q hq) (gl_freeV hd.2.1 hS) (fun r u t H1 locs1 ht hvm hw hB hz hk hS1 => by
    subst ht
    exact kk r u hw ok hd t.heap locs1 lsA (gl_stay hP (fun c c' h1 h2 => (hd.2.2 c' c h2 h1).symm) hk) hB hS1 hl)
end GL
