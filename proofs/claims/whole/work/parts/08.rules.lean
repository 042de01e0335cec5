section GWR
variable {l : Launch} {V : gw_W} {ad : Nat → Nat} {cc : ByteArray} {own : String} {nL : Nat} {ret : Option FieldType} {f lo : Nat} {Qp : Int32 → gw_H → Prop} {X : gw_X} {h : gw_H} {pc : Nat} {ls : gw_L} {st : List Value}
theorem gw_if_eq {x : Int32} {off : Int} {tgt : Nat} (hdg : decode cc pc = .ok (.ifCond .eq off, 3)) (ht : (pc : Int) + off = (tgt : Int)) (kt : x = 0 → gw_G l V ad cc own nL ret f lo Qp X h tgt ls st) (kf : ¬ x = 0 → gw_G l V ad cc own nL ret f lo Qp X h (pc + 3) ls st) : gw_G l V ad cc own nL ret f lo Qp X h pc ls (.int x :: st) := by
  obtain ⟨p, e, s, m, args, below, meth, c, D, cI⟩ := X
  intro ok H locs lsA hP hD hS hl
  exact lv_if_eq ok.1 ok.2.1 hdg ht (fun q => kt q ok H locs lsA hP hD hS hl) (fun q => kf q ok H locs lsA hP hD hS hl)
theorem gw_if_ne {x : Int32} {off : Int} {tgt : Nat} (hdg : decode cc pc = .ok (.ifCond .ne off, 3)) (ht : (pc : Int) + off = (tgt : Int)) (kt : ¬ x = 0 → gw_G l V ad cc own nL ret f lo Qp X h tgt ls st) (kf : x = 0 → gw_G l V ad cc own nL ret f lo Qp X h (pc + 3) ls st) : gw_G l V ad cc own nL ret f lo Qp X h pc ls (.int x :: st) := by
  obtain ⟨p, e, s, m, args, below, meth, c, D, cI⟩ := X
  intro ok H locs lsA hP hD hS hl
  exact lv_if_ne ok.1 ok.2.1 hdg ht (fun q => kt q ok H locs lsA hP hD hS hl) (fun q => kf q ok H locs lsA hP hD hS hl)
theorem gw_if_lt {x : Int32} {off : Int} {tgt : Nat} (hdg : decode cc pc = .ok (.ifCond .lt off, 3)) (ht : (pc : Int) + off = (tgt : Int)) (kt : x < 0 → gw_G l V ad cc own nL ret f lo Qp X h tgt ls st) (kf : ¬ x < 0 → gw_G l V ad cc own nL ret f lo Qp X h (pc + 3) ls st) : gw_G l V ad cc own nL ret f lo Qp X h pc ls (.int x :: st) := by
  obtain ⟨p, e, s, m, args, below, meth, c, D, cI⟩ := X
  intro ok H locs lsA hP hD hS hl
  exact lv_if_lt ok.1 ok.2.1 hdg ht (fun q => kt q ok H locs lsA hP hD hS hl) (fun q => kf q ok H locs lsA hP hD hS hl)
theorem gw_if_ge {x : Int32} {off : Int} {tgt : Nat} (hdg : decode cc pc = .ok (.ifCond .ge off, 3)) (ht : (pc : Int) + off = (tgt : Int)) (kt : 0 ≤ x → gw_G l V ad cc own nL ret f lo Qp X h tgt ls st) (kf : ¬ 0 ≤ x → gw_G l V ad cc own nL ret f lo Qp X h (pc + 3) ls st) : gw_G l V ad cc own nL ret f lo Qp X h pc ls (.int x :: st) := by
  obtain ⟨p, e, s, m, args, below, meth, c, D, cI⟩ := X
  intro ok H locs lsA hP hD hS hl
  exact lv_if_ge ok.1 ok.2.1 hdg ht (fun q => kt q ok H locs lsA hP hD hS hl) (fun q => kf q ok H locs lsA hP hD hS hl)
theorem gw_if_gt {x : Int32} {off : Int} {tgt : Nat} (hdg : decode cc pc = .ok (.ifCond .gt off, 3)) (ht : (pc : Int) + off = (tgt : Int)) (kt : 0 < x → gw_G l V ad cc own nL ret f lo Qp X h tgt ls st) (kf : ¬ 0 < x → gw_G l V ad cc own nL ret f lo Qp X h (pc + 3) ls st) : gw_G l V ad cc own nL ret f lo Qp X h pc ls (.int x :: st) := by
  obtain ⟨p, e, s, m, args, below, meth, c, D, cI⟩ := X
  intro ok H locs lsA hP hD hS hl
  exact lv_if_gt ok.1 ok.2.1 hdg ht (fun q => kt q ok H locs lsA hP hD hS hl) (fun q => kf q ok H locs lsA hP hD hS hl)
theorem gw_if_le {x : Int32} {off : Int} {tgt : Nat} (hdg : decode cc pc = .ok (.ifCond .le off, 3)) (ht : (pc : Int) + off = (tgt : Int)) (kt : x ≤ 0 → gw_G l V ad cc own nL ret f lo Qp X h tgt ls st) (kf : ¬ x ≤ 0 → gw_G l V ad cc own nL ret f lo Qp X h (pc + 3) ls st) : gw_G l V ad cc own nL ret f lo Qp X h pc ls (.int x :: st) := by
  obtain ⟨p, e, s, m, args, below, meth, c, D, cI⟩ := X
  intro ok H locs lsA hP hD hS hl
  exact lv_if_le ok.1 ok.2.1 hdg ht (fun q => kt q ok H locs lsA hP hD hS hl) (fun q => kf q ok H locs lsA hP hD hS hl)
theorem gw_icmp_eq {x y : Int32} {off : Int} {tgt : Nat} (hdg : decode cc pc = .ok (.if_icmp .eq off, 3)) (ht : (pc : Int) + off = (tgt : Int)) (kt : x = y → gw_G l V ad cc own nL ret f lo Qp X h tgt ls st) (kf : ¬ x = y → gw_G l V ad cc own nL ret f lo Qp X h (pc + 3) ls st) : gw_G l V ad cc own nL ret f lo Qp X h pc ls (.int y :: .int x :: st) := by
  obtain ⟨p, e, s, m, args, below, meth, c, D, cI⟩ := X
  intro ok H locs lsA hP hD hS hl
  exact lv_icmp_eq ok.1 ok.2.1 hdg ht (fun q => kt q ok H locs lsA hP hD hS hl) (fun q => kf q ok H locs lsA hP hD hS hl)
theorem gw_icmp_ne {x y : Int32} {off : Int} {tgt : Nat} (hdg : decode cc pc = .ok (.if_icmp .ne off, 3)) (ht : (pc : Int) + off = (tgt : Int)) (kt : ¬ x = y → gw_G l V ad cc own nL ret f lo Qp X h tgt ls st) (kf : x = y → gw_G l V ad cc own nL ret f lo Qp X h (pc + 3) ls st) : gw_G l V ad cc own nL ret f lo Qp X h pc ls (.int y :: .int x :: st) := by
  obtain ⟨p, e, s, m, args, below, meth, c, D, cI⟩ := X
  intro ok H locs lsA hP hD hS hl
  exact lv_icmp_ne ok.1 ok.2.1 hdg ht (fun q => kt q ok H locs lsA hP hD hS hl) (fun q => kf q ok H locs lsA hP hD hS hl)
theorem gw_icmp_lt {x y : Int32} {off : Int} {tgt : Nat} (hdg : decode cc pc = .ok (.if_icmp .lt off, 3)) (ht : (pc : Int) + off = (tgt : Int)) (kt : x < y → gw_G l V ad cc own nL ret f lo Qp X h tgt ls st) (kf : ¬ x < y → gw_G l V ad cc own nL ret f lo Qp X h (pc + 3) ls st) : gw_G l V ad cc own nL ret f lo Qp X h pc ls (.int y :: .int x :: st) := by
  obtain ⟨p, e, s, m, args, below, meth, c, D, cI⟩ := X
  intro ok H locs lsA hP hD hS hl
  exact lv_icmp_lt ok.1 ok.2.1 hdg ht (fun q => kt q ok H locs lsA hP hD hS hl) (fun q => kf q ok H locs lsA hP hD hS hl)
theorem gw_icmp_ge {x y : Int32} {off : Int} {tgt : Nat} (hdg : decode cc pc = .ok (.if_icmp .ge off, 3)) (ht : (pc : Int) + off = (tgt : Int)) (kt : y ≤ x → gw_G l V ad cc own nL ret f lo Qp X h tgt ls st) (kf : ¬ y ≤ x → gw_G l V ad cc own nL ret f lo Qp X h (pc + 3) ls st) : gw_G l V ad cc own nL ret f lo Qp X h pc ls (.int y :: .int x :: st) := by
  obtain ⟨p, e, s, m, args, below, meth, c, D, cI⟩ := X
  intro ok H locs lsA hP hD hS hl
  exact lv_icmp_ge ok.1 ok.2.1 hdg ht (fun q => kt q ok H locs lsA hP hD hS hl) (fun q => kf q ok H locs lsA hP hD hS hl)
theorem gw_icmp_gt {x y : Int32} {off : Int} {tgt : Nat} (hdg : decode cc pc = .ok (.if_icmp .gt off, 3)) (ht : (pc : Int) + off = (tgt : Int)) (kt : y < x → gw_G l V ad cc own nL ret f lo Qp X h tgt ls st) (kf : ¬ y < x → gw_G l V ad cc own nL ret f lo Qp X h (pc + 3) ls st) : gw_G l V ad cc own nL ret f lo Qp X h pc ls (.int y :: .int x :: st) := by
  obtain ⟨p, e, s, m, args, below, meth, c, D, cI⟩ := X
  intro ok H locs lsA hP hD hS hl
  exact lv_icmp_gt ok.1 ok.2.1 hdg ht (fun q => kt q ok H locs lsA hP hD hS hl) (fun q => kf q ok H locs lsA hP hD hS hl)
theorem gw_icmp_le {x y : Int32} {off : Int} {tgt : Nat} (hdg : decode cc pc = .ok (.if_icmp .le off, 3)) (ht : (pc : Int) + off = (tgt : Int)) (kt : x ≤ y → gw_G l V ad cc own nL ret f lo Qp X h tgt ls st) (kf : ¬ x ≤ y → gw_G l V ad cc own nL ret f lo Qp X h (pc + 3) ls st) : gw_G l V ad cc own nL ret f lo Qp X h pc ls (.int y :: .int x :: st) := by
  obtain ⟨p, e, s, m, args, below, meth, c, D, cI⟩ := X
  intro ok H locs lsA hP hD hS hl
  exact lv_icmp_le ok.1 ok.2.1 hdg ht (fun q => kt q ok H locs lsA hP hD hS hl) (fun q => kf q ok H locs lsA hP hD hS hl)
theorem gw_tin {dflt lo' hi : Int} {offs : Array Int} {len : Nat} {x k : Int32} {off : Int} {tgt : Nat} (hdg : decode cc pc = .ok (.tableswitch dflt lo' hi offs, len)) (hx : x = k) (h1 : ¬ k.toInt < lo') (h2 : ¬ hi < k.toInt) (ho : offs[(k.toInt - lo').toNat]? = some off) (ht : (pc : Int) + off = (tgt : Int)) (kk : gw_G l V ad cc own nL ret f lo Qp X h tgt ls st) : gw_G l V ad cc own nL ret f lo Qp X h pc ls (.int x :: st) := by
  subst hx
  exact gw_keep (fun _ _ _ _ _ _ _ _ _ _ ok _ _ _ _ _ _ w => lv_tableIn ok.1 ok.2.1 hdg h1 h2 ho ht w) kk
theorem gw_tout {dflt lo' hi : Int} {offs : Array Int} {len : Nat} {x : Int32} {tgt : Nat} (hdg : decode cc pc = .ok (.tableswitch dflt lo' hi offs, len)) (h1 : x.toInt < lo' ∨ hi < x.toInt) (ht : (pc : Int) + dflt = (tgt : Int)) (kk : gw_G l V ad cc own nL ret f lo Qp X h tgt ls st) : gw_G l V ad cc own nL ret f lo Qp X h pc ls (.int x :: st) :=
  gw_keep (fun _ _ _ _ _ _ _ _ _ _ ok _ _ _ _ _ _ w => lv_tableOut ok.1 ok.2.1 hdg h1 ht w) kk
theorem gw_lsw {dflt : Int} {ps : Array (Int × Int)} {len : Nat} {x : Int32} {off : Int} {tgt : Nat} (hdg : decode cc pc = .ok (.lookupswitch dflt ps, len)) (hp : (ps.toList.zip (ps.toList.drop 1)).all (fun (a, next) => a.1 < next.1) = true) (ho : Op.lookupswitch.offset ps.toList dflt x.toInt = off) (ht : (pc : Int) + off = (tgt : Int)) (kk : gw_G l V ad cc own nL ret f lo Qp X h tgt ls st) : gw_G l V ad cc own nL ret f lo Qp X h pc ls (.int x :: st) :=
  gw_keep (fun _ _ _ _ _ _ _ _ _ _ ok _ _ _ _ _ _ w => lv_lookup ok.1 ok.2.1 hdg hp ho ht w) kk
theorem gw_istore_n {k : Fin 4} {i : Nat} {x : Int32} {ls' : gw_L} (hdg : decode cc pc = .ok (.istore_n k, 1)) (hi : (k : Nat) = i) (hn : i < nL) (hls : ls.set i (some (.int x)) = ls') (kk : gw_G l V ad cc own nL ret f lo Qp X h (pc + 1) ls' st) : gw_G l V ad cc own nL ret f lo Qp X h pc ls (.int x :: st) := by
  obtain ⟨p, e, s, m, args, below, meth, c, D, cI⟩ := X
  intro ok H locs lsA hP hD hS hl
  exact lv_istore_n ok.1 ok.2.1 hdg hi hl.has hn rfl (fun lsB hb => kk ok H locs lsB hP hD hS (hls ▸ hl.put rfl hb))
theorem gw_istore {i : Nat} {x : Int32} {ls' : gw_L} (hdg : decode cc pc = .ok (.istore i, 2)) (hn : i < nL) (hls : ls.set i (some (.int x)) = ls') (kk : gw_G l V ad cc own nL ret f lo Qp X h (pc + 2) ls' st) : gw_G l V ad cc own nL ret f lo Qp X h pc ls (.int x :: st) := by
  obtain ⟨p, e, s, m, args, below, meth, c, D, cI⟩ := X
  intro ok H locs lsA hP hD hS hl
  exact lv_istore ok.1 ok.2.1 hdg hl.has hn rfl (fun lsB hb => kk ok H locs lsB hP hD hS (hls ▸ hl.put rfl hb))
theorem gw_iinc {i : Nat} {n : Int} {x v : Int32} {ls' : gw_L} (hdg : decode cc pc = .ok (.iinc i n, 3)) (hx : ls[i]? = some (some (.int x))) (hv : x + Int32.ofInt n = v) (hn : i < nL) (hls : ls.set i (some (.int v)) = ls') (kk : gw_G l V ad cc own nL ret f lo Qp X h (pc + 3) ls' st) : gw_G l V ad cc own nL ret f lo Qp X h pc ls st := by
  obtain ⟨p, e, s, m, args, below, meth, c, D, cI⟩ := X
  intro ok H locs lsA hP hD hS hl
  obtain ⟨k, hk⟩ := List.getElem?_of_mem (gw_lvm.mpr hx)
  exact lv_iinc ok.1 ok.2.1 hdg hl.has hk hv hn rfl (fun lsB hb => kk ok H locs lsB hP hD hS (hls ▸ hl.put rfl hb))
theorem gw_forget {ls' : gw_L} (hs : gw_sub ls' ls) (kk : gw_G l V ad cc own nL ret f lo Qp X h pc ls' st) : gw_G l V ad cc own nL ret f lo Qp X h pc ls st := by
  obtain ⟨p, e, s, m, args, below, meth, c, D, cI⟩ := X
  intro ok H locs lsA hP hD hS hl
  exact kk ok H locs lsA hP hD hS ⟨hl.1, hl.2.1, fun i v hi => hl.2.2 i v (hs.at hi)⟩
/-- what the cells are -/
def gw_O (V : gw_W) (ad : Nat → Nat) (c ci : Nat) (fsF : (Nat → Int32) → List Value) : Prop := c < V.1 ∧ ∀ (cI : ClassId) (v : Nat → Int32), V.2 cI ad v c = .inr (ci, fsF v)
def gw_Ar (V : gw_W) (c n : Nat) : Prop := c < V.1 ∧ ∀ (cI : ClassId) (ad : Nat → Nat) (v : Nat → Int32), V.2 cI ad v c = .inl (cI, n, .inl v)
theorem gw_O.at {V : gw_W} {ad : Nat → Nat} {c ci : Nat} {fsF : (Nat → Int32) → List Value} (hO : gw_O V ad c ci fsF) (cI : ClassId) (h : gw_H) : (gw_ws V cI ad h)[c]? = some (ad c, .inr (ci, fsF (h c))) := by rw [gw_get hO.1, hO.2]
theorem gw_Ar.at {V : gw_W} {c n : Nat} (hO : gw_Ar V c n) (cI : ClassId) (ad : Nat → Nat) (h : gw_H) : (gw_ws V cI ad h)[c]? = some (ad c, .inl (cI, n, .inl (h c))) := by rw [gw_get hO.1, hO.2]
theorem gw_getf {c ci k idx N : Nat} {C O nm ds : String} {fin : Bool} {T : u_T} {fsF : (Nat → Int32) → List Value} {v : Value} (hO : gw_O V ad c ci fsF) (hc : vwCl[ci]? = some (C, T, N)) (hin : ∀ w ∈ u_ws C T N, w ∈ gw_W0) (hk : k < N) (hT : T k = (O, nm, ds, fin)) (hlink : Cond.fieldLink own idx O nm ds ∈ gw_W0) (hv : (fsF (h c))[k]? = some v) (hdg : decode cc pc = .ok (.getfield idx, 3)) (kk : gw_G l V ad cc own nL ret f lo Qp X h (pc + 3) ls (v :: st)) : gw_G l V ad cc own nL ret f lo Qp X h pc ls (.ref (ad c) :: st) :=
  gw_keep (fun _ _ _ _ _ _ _ _ _ cI ok _ _ _ _ hP _ w => va_get (C := C) (T := T) (N := N) (ref := O) ok.1 ok.2.1 ok.2.2.2.2.1 hin ok.2.2.2.1 ok.2.2.2.2.2.2.2.1 hP c (hO.at cI h) hc k hk (by rw [hT]; exact ok.2.2.2.2.1 _ hlink) (by rw [hT]; exact fun _ h9 => h9) hv hdg w) kk
theorem gw_getfN {c ci k idx N : Nat} {C O nm ds host : String} {fin : Bool} {T : u_T} {fsF : (Nat → Int32) → List Value} {v : Value} (hO : gw_O V ad c ci fsF) (hc : vwCl[ci]? = some (C, T, N)) (hin : ∀ w ∈ u_ws C T N, w ∈ gw_W0) (hk : k < N) (hT : T k = (O, nm, ds, fin)) (hlink : Cond.fieldLinkNest own idx O nm ds host ∈ gw_nest) (hv : (fsF (h c))[k]? = some v) (hdg : decode cc pc = .ok (.getfield idx, 3)) (kk : gw_G l V ad cc own nL ret f lo Qp X h (pc + 3) ls (v :: st)) : gw_G l V ad cc own nL ret f lo Qp X h pc ls (.ref (ad c) :: st) :=
  gw_keep (fun _ _ _ _ _ _ _ _ _ cI ok _ _ _ _ hP _ w => va_getN (C := C) (T := T) (N := N) (ref := O) (host := host) ok.1 ok.2.1 ok.2.2.2.2.1 hin ok.2.2.2.1 ok.2.2.2.2.2.2.2.1 hP c (hO.at cI h) hc k hk (by rw [hT]; exact va_Nw.use rfl (ok.2.2.2.2.2.2.2.2.1.1 _ hlink)) (by rw [hT]; exact fun _ h9 => h9) hv hdg w) kk
theorem gw_iald {c n j : Nat} {i : Int32} (hA : gw_Ar V c n) (hin : vp_in i n) (hj : i.toNatClampNeg = j) (hdg : decode cc pc = .ok (.iaload, 1)) (kk : gw_G l V ad cc own nL ret f lo Qp X h (pc + 1) ls (.int (h c j) :: st)) : gw_G l V ad cc own nL ret f lo Qp X h pc ls (.int i :: .ref (ad c) :: st) := by
  subst hj
  exact gw_keep (fun _ _ _ _ _ _ _ _ _ cI ok _ _ _ _ hP _ w => va_iald ok.1 ok.2.1 ok.2.2.2.2.2.2.2.1 hP c 0 (hA.at cI ad h) rfl hin hdg w) kk
theorem gw_alen {c n : Nat} {v : Int32} (hA : gw_Ar V c n) (hv : Int32.ofNat n = v) (hdg : decode cc pc = .ok (.arraylength, 1)) (kk : gw_G l V ad cc own nL ret f lo Qp X h (pc + 1) ls (.int v :: st)) : gw_G l V ad cc own nL ret f lo Qp X h pc ls (.ref (ad c) :: st) :=
  gw_keep (fun _ _ _ _ _ _ _ _ _ cI ok _ _ _ _ hP _ w => va_alen ok.1 ok.2.1 ok.2.2.2.2.2.2.2.1 hP c 0 (hA.at cI ad h) rfl hv hdg w) kk
theorem gw_iast {c n j : Nat} {i x : Int32} (hA : gw_Ar V c n) (hin : vp_in i n) (hj : i.toNatClampNeg = j) (hdg : decode cc pc = .ok (.iastore, 1)) (kk : gw_G l V ad cc own nL ret f lo Qp X (gw_up h c j x) (pc + 1) ls st) : gw_G l V ad cc own nL ret f lo Qp X h pc ls (.int x :: .int i :: .ref (ad c) :: st) := by
  subst hj
  obtain ⟨p, e, s, m, args, below, meth, cx, D, cI⟩ := X
  intro ok H locs lsA hP hD hS hl
  refine va_iast ok.1 ok.2.1 ok.2.2.2.2.2.2.2.1 hP hD hS c 0 (hA.at cI ad h) rfl hin hdg (fun H1 locs1 hP1 hD1 hS1 => ?_)
  have e1 : (gw_ws V cI ad h).set c (ad c, .inl (cI, n, .inl (upd (h c) i.toNatClampNeg x))) = gw_ws V cI ad (gw_up h c i.toNatClampNeg x) := by
    rw [← hA.2 cI ad (upd (h c) i.toNatClampNeg x)]
    exact gw_set _ hA.1
  rw [e1] at hP1 hD1
  exact kk ok H1 locs1 lsA hP1 hD1 hS1 hl
theorem gw_putf {c ci k idx N : Nat} {C O nm ds : String} {T : u_T} {tyF : Nat → FieldType} {fsF : (Nat → Int32) → List Value} {x : Int32} {ty : FieldType} (hO : gw_O V ad c ci fsF) (hc : vwCl[ci]? = some (C, T, N)) (hin : ∀ w ∈ u_ws C T N, w ∈ gw_W0) (hty : ∀ k, k < N → parseFieldDescriptor (T k).2.2.1 = some (tyF k)) (hnm : ∀ a, a < N → ∀ b, b < N → a ≠ b → (T a).2.1 ≠ (T b).2.1) (hk : k < N) (hT : T k = (O, nm, ds, false)) (hlink : Cond.fieldLink own idx O nm ds ∈ gw_W0) (hd : parseFieldDescriptor ds = some ty) (hn : narrow ty (.int x) = .int x) (hfit : fits ty (.int x) = true) (hset : ∀ v : Nat → Int32, k < (fsF v).length ∧ (fsF v).set k (.int x) = fsF (upd v k x)) (hdg : decode cc pc = .ok (.putfield idx, 3)) (kk : gw_G l V ad cc own nL ret f lo Qp X (gw_up h c k x) (pc + 3) ls st) : gw_G l V ad cc own nL ret f lo Qp X h pc ls (.int x :: .ref (ad c) :: st) := by
  obtain ⟨p, e, s, m, args, below, meth, cx, D, cI⟩ := X
  intro ok H locs lsA hP hD hS hl
  refine va_put (C := C) (T := T) (N := N) (ref := O) ok.1 ok.2.1 ok.2.2.2.2.1 hin tyF hty hnm ok.2.2.2.1 ok.2.2.2.2.2.2.2.1 hP hD hS c (hO.at cI h) hc k hk (by rw [hT]; exact ok.2.2.2.2.1 _ hlink) (by rw [hT]; exact fun _ h9 => h9) (by rw [hT]) (by rw [hT]; exact hd) hn hfit (hset _).1 hdg (fun H1 locs1 hP1 hD1 hS1 => ?_)
  have e1 : (gw_ws V cI ad h).set c (ad c, .inr (ci, (fsF (h c)).set k (.int x))) = gw_ws V cI ad (gw_up h c k x) := by
    rw [(hset _).2, ← hO.2 cI (upd (h c) k x)]
    exact gw_set _ hO.1
  rw [e1] at hP1 hD1
  exact kk ok H1 locs1 lsA hP1 hD1 hS1 hl
theorem gw_putfN {c ci k idx N : Nat} {C O nm ds host : String} {T : u_T} {tyF : Nat → FieldType} {fsF : (Nat → Int32) → List Value} {x : Int32} {ty : FieldType} (hO : gw_O V ad c ci fsF) (hc : vwCl[ci]? = some (C, T, N)) (hin : ∀ w ∈ u_ws C T N, w ∈ gw_W0) (hty : ∀ k, k < N → parseFieldDescriptor (T k).2.2.1 = some (tyF k)) (hnm : ∀ a, a < N → ∀ b, b < N → a ≠ b → (T a).2.1 ≠ (T b).2.1) (hk : k < N) (hT : T k = (O, nm, ds, false)) (hlink : Cond.fieldLinkNest own idx O nm ds host ∈ gw_nest) (hd : parseFieldDescriptor ds = some ty) (hn : narrow ty (.int x) = .int x) (hfit : fits ty (.int x) = true) (hset : ∀ v : Nat → Int32, k < (fsF v).length ∧ (fsF v).set k (.int x) = fsF (upd v k x)) (hdg : decode cc pc = .ok (.putfield idx, 3)) (kk : gw_G l V ad cc own nL ret f lo Qp X (gw_up h c k x) (pc + 3) ls st) : gw_G l V ad cc own nL ret f lo Qp X h pc ls (.int x :: .ref (ad c) :: st) := by
  obtain ⟨p, e, s, m, args, below, meth, cx, D, cI⟩ := X
  intro ok H locs lsA hP hD hS hl
  refine va_putN (C := C) (T := T) (N := N) (ref := O) (host := host) ok.1 ok.2.1 ok.2.2.2.2.1 hin tyF hty hnm ok.2.2.2.1 ok.2.2.2.2.2.2.2.1 hP hD hS c (hO.at cI h) hc k hk (by rw [hT]; exact va_Nw.use rfl (ok.2.2.2.2.2.2.2.2.1.1 _ hlink)) (by rw [hT]; exact fun _ h9 => h9) (by rw [hT]) (by rw [hT]; exact hd) hn hfit (hset _).1 hdg (fun H1 locs1 hP1 hD1 hS1 => ?_)
  have e1 : (gw_ws V cI ad h).set c (ad c, .inr (ci, (fsF (h c)).set k (.int x))) = gw_ws V cI ad (gw_up h c k x) := by
    rw [(hset _).2, ← hO.2 cI (upd (h c) k x)]
    exact gw_set _ hO.1
  rw [e1] at hP1 hD1
  exact kk ok H1 locs1 lsA hP1 hD1 hS1 hl
/-- ends -/
theorem gw_ireturn {ty : FieldType} {r : Int32} (hq : Qp r h) (hret : ret = some ty) (hn : narrow ty (.int r) = .int r) (hdg : decode cc pc = .ok (.ireturn, 1)) : gw_G l V ad cc own nL ret f lo Qp X h pc ls [.int r] := by
  obtain ⟨p, e, s, m, args, below, meth, c, D, cI⟩ := X
  intro ok H locs lsA hP hD hS hl
  subst hret
  exact W.zret (ty := ty) ok.1 ok.2.1 ok.2.2.2.2.2.1 hn (fun t ht hW => ⟨⟨r, h, rfl, hq, by show va_P D vwCl _ t.heap; rw [ht]; exact hP⟩, hS.F ht⟩) hS.2.2 hdg ok.2.2.2.2.2.2.1
theorem gw_return (hq : Qp 0 h) (hret : ret = none) (hdg : decode cc pc = .ok (.return_, 1)) : gw_G l V ad cc own nL ret f lo Qp X h pc ls [] := by
  obtain ⟨p, e, s, m, args, below, meth, c, D, cI⟩ := X
  intro ok H locs lsA hP hD hS hl
  subst hret
  exact W.vret ok.1 ok.2.1 ok.2.2.2.2.2.1 (fun t ht hW => ⟨⟨h, rfl, hq, by show va_P D vwCl _ t.heap; rw [ht]; exact hP⟩, hS.F ht⟩) hS.2.2 hdg ok.2.2.2.2.2.2.1
/-- the start of a called contract, from the caller's state -/
theorem gw_start {D : va_G} {cI : ClassId} {s : State} {H : Heap} {locs : List Loc} {As : List Value} (hP : va_P D vwCl (gw_ws V cI ad h) H) (hD : va_D (gw_A V.1 ad s.heap.size) (gw_ws V cI ad h)) (hS : va_S (gw_A V.1 ad s.heap.size) s.heap H locs) (hK : va_K D vwCl [(cI, .int)] s) (hE : gw_E ad (gw_A V.1 ad s.heap.size) s s.heap) (U : State) (hU : U.heap = H) (hW : s.WarmedH U.vm) : va_Pc As (gw_Pre V ad D cI h H.size) As.toArray U := by
  refine ⟨rfl, by rw [hU], by rw [hU]; exact hP, va_K.moved hW.alike hK, hD.weaken (fun _ _ _ _ => trivial), ?_⟩
  have h1 : gw_E ad (gw_A V.1 ad s.heap.size) s H := hE.kept hS.2.1
  have h2 : gw_E ad (gw_A V.1 ad s.heap.size) U H := h1.warm hW
  rw [hU]
  refine h2.narrow (fun q hq => ?_)
  rcases hq with hq | hq
  · exact Or.inl hq
  · exact Or.inr (Nat.le_trans hS.1 hq)
theorem gw_free {N : Nat} {H0 H : Heap} (hs : H0.size ≤ H.size) : ∀ q, gw_A N ad H.size q → gw_A N ad H0.size q := fun q hq => by
  rcases hq with hq | hq
  · exact Or.inl hq
  · exact Or.inr (Nat.le_trans hs hq)
theorem gw_room {m : MethodId} {lsA : Array Slot} {s9 rest : List Value} (hw : (rest.map fun v => v.category).sum ≤ 8) : 2 * (F0 m pc lsA s9).monitorRoom + (rest.map fun v => v.category).sum ≤ 8 := lv_room hw

theorem gw_giU {y : MethodName} {yc : ByteArray} {n : Nat} {rt : Option FieldType} (hc : Cond.code y yc n rt ∈ gw_W0) : GoodIn gw_W0 (gw_U y yc n rt) := by
  intro w hw
  rcases List.mem_cons.mp hw with rfl | h
  · exact gw_goodU _ hc
  · exact gw_goodU _ h
theorem gw_gi4 {y : MethodName} {ws : List Cond} {idx : Nat} {C : String} (hU : GoodIn gw_W0 ws) (h1 : Cond.methodLink own idx y ∈ gw_W0) (h2 : Cond.instanceMethod y ∈ gw_W0) (h3 : Cond.selects C y y ∈ gw_W0) (h4 : Cond.initialized C ∈ gw_W0) : GoodIn gw_W0 (wsV own idx C y ws) := by
  intro w hw
  rcases List.mem_append.mp hw with h | h
  · rcases List.mem_cons.mp h with rfl | h
    · exact gw_goodU _ h1
    rcases List.mem_cons.mp h with rfl | h
    · exact gw_goodU _ h2
    rcases List.mem_cons.mp h with rfl | h
    · exact gw_goodU _ h3
    rcases List.mem_cons.mp h with rfl | h
    · exact gw_goodU _ h4
    cases h
  · exact hU w h
theorem gw_gi3 {y : MethodName} {ws : List Cond} {idx : Nat} (hU : GoodIn gw_W0 ws) (h1 : Cond.methodLink own idx y ∈ gw_W0) (h2 : Cond.static y ∈ gw_W0) (h4 : Cond.initialized y.cls ∈ gw_W0) : GoodIn gw_W0 (va_wsS own idx y ws) := by
  intro w hw
  rcases List.mem_append.mp hw with h | h
  · rcases List.mem_cons.mp h with rfl | h
    · exact gw_goodU _ h1
    rcases List.mem_cons.mp h with rfl | h
    · exact gw_goodU _ h2
    rcases List.mem_cons.mp h with rfl | h
    · exact gw_goodU _ h4
    cases h
  · exact hU w h
theorem gw_callVi {c ci k idx N yn yf ylo : Nat} {y : MethodName} {yc : ByteArray} {yr : Option FieldType} {C : String} {T : u_T} {fsF : (Nat → Int32) → List Value} {As rest : List Value} {Qc : Int32 → gw_H → Prop} {yt : FieldType} (hv : yr = some yt) (hC : gw_C l y yc yn yr yf ylo V ad (.ref (ad c) :: As) h Qc) (hm : gw_MI y yc yn yr C k) (hlk : Cond.methodLink own idx y ∈ gw_W0)  (hO : gw_O V ad c ci fsF) (hc : vwCl[ci]? = some (C, T, N)) (hn : As.length = k) (hst : st = As.reverse ++ .ref (ad c) :: rest) (hR : yf + 1 ≤ f ∧ 8 + (yn + 11) + ylo ≤ lo) (hw8 : (rest.map fun v => v.category).sum ≤ 8) (hdg : decode cc pc = .ok (.invokevirtual idx, 3))
    (kk : ∀ (r : Int32) (h' : gw_H), Qc r h' → gw_G l V ad cc own nL ret f lo Qp X h' (pc + 3) ls (.int r :: rest)) : gw_G l V ad cc own nL ret f lo Qp X h pc ls st := by
  obtain ⟨p, e, s, m, args, below, meth, cx, D, cI⟩ := X
  intro ok H locs lsA hP hD hS hl
  have hGI : GoodIn gw_W0 (wsV own idx C y (gw_U y yc yn yr)) := gw_gi4 (gw_giU hm.1) hlk hm.2.1 hm.2.2.1 hm.2.2.2.1
  subst hv
  exact va_calli (va_runV (As := As) (rest := rest) ⟨ok.1, ok.2.1, ok.2.2.1, ok.2.2.2.1, ok.2.2.2.2.1⟩ (hC D cI H.size) (cwV (C := C) k ok.2.2.2.2.1 hGI rfl rfl rfl hm.2.2.2.2 ⟨hR.1, hR.2⟩) ⟨gw_blind, va_recv ok.2.2.2.2.2.2.2.1 hP hc (hO.at cI h), fun U hU hW => gw_start (As := .ref (ad c) :: As) hP hD hS ok.2.2.2.2.2.2.2.1 ok.2.2.2.2.2.2.2.2.1 U hU hW⟩ rfl hn hl.1 hst (gw_room hw8) hdg ⟨Nat.zero_le _, Nat.zero_le _⟩) hS (fun q _ hq => gw_free hS.1 q hq) (gw_free hS.1) (fun r u t H1 locs1 ht hvm hw hB hz hk hS1 => by
    subst ht
    exact kk r u hw ok t.heap locs1 lsA hB (gw_D u hD) hS1 hl)
theorem gw_callVv {c ci k idx N yn yf ylo : Nat} {y : MethodName} {yc : ByteArray} {yr : Option FieldType} {C : String} {T : u_T} {fsF : (Nat → Int32) → List Value} {As rest : List Value} {Qc : Int32 → gw_H → Prop} (hv : yr = none) (hC : gw_C l y yc yn yr yf ylo V ad (.ref (ad c) :: As) h Qc) (hm : gw_MI y yc yn yr C k) (hlk : Cond.methodLink own idx y ∈ gw_W0)  (hO : gw_O V ad c ci fsF) (hc : vwCl[ci]? = some (C, T, N)) (hn : As.length = k) (hst : st = As.reverse ++ .ref (ad c) :: rest) (hR : yf + 1 ≤ f ∧ 8 + (yn + 11) + ylo ≤ lo) (hw8 : (rest.map fun v => v.category).sum ≤ 8) (hdg : decode cc pc = .ok (.invokevirtual idx, 3))
    (kk : ∀ h' : gw_H, Qc 0 h' → gw_G l V ad cc own nL ret f lo Qp X h' (pc + 3) ls rest) : gw_G l V ad cc own nL ret f lo Qp X h pc ls st := by
  obtain ⟨p, e, s, m, args, below, meth, cx, D, cI⟩ := X
  intro ok H locs lsA hP hD hS hl
  have hGI : GoodIn gw_W0 (wsV own idx C y (gw_U y yc yn yr)) := gw_gi4 (gw_giU hm.1) hlk hm.2.1 hm.2.2.1 hm.2.2.2.1
  subst hv
  exact va_callv (va_runV (As := As) (rest := rest) ⟨ok.1, ok.2.1, ok.2.2.1, ok.2.2.2.1, ok.2.2.2.2.1⟩ (hC D cI H.size) (cwV (C := C) k ok.2.2.2.2.1 hGI rfl rfl rfl hm.2.2.2.2 ⟨hR.1, hR.2⟩) ⟨gw_blind, va_recv ok.2.2.2.2.2.2.2.1 hP hc (hO.at cI h), fun U hU hW => gw_start (As := .ref (ad c) :: As) hP hD hS ok.2.2.2.2.2.2.2.1 ok.2.2.2.2.2.2.2.2.1 U hU hW⟩ rfl hn hl.1 hst (gw_room hw8) hdg ⟨Nat.zero_le _, Nat.zero_le _⟩) hS (fun q _ hq => gw_free hS.1 q hq) (gw_free hS.1) (fun u t H1 locs1 ht hvm hw hB hz hk hS1 => by
    subst ht
    exact kk u hw ok t.heap locs1 lsA hB (gw_D u hD) hS1 hl)
theorem gw_callTi {i k idx yn yf ylo : Nat} {y : MethodName} {yc : ByteArray} {yr : Option FieldType} {C : String} {As rest : List Value} {Qc : Int32 → gw_H → Prop} {yt : FieldType} (hv : yr = some yt) (hC : gw_C l y yc yn yr yf ylo V ad (.ref (ad (1000 + i)) :: As) h Qc) (hm : gw_MI y yc yn yr C k) (hlk : Cond.methodLink own idx y ∈ gw_W0)  (hi : i < 2) (hCs : C = "java/lang/String") (hn : As.length = k) (hst : st = As.reverse ++ .ref (ad (1000 + i)) :: rest) (hR : yf + 1 ≤ f ∧ 8 + (yn + 11) + ylo ≤ lo) (hw8 : (rest.map fun v => v.category).sum ≤ 8) (hdg : decode cc pc = .ok (.invokevirtual idx, 3))
    (kk : ∀ (r : Int32) (h' : gw_H), Qc r h' → gw_G l V ad cc own nL ret f lo Qp X h' (pc + 3) ls (.int r :: rest)) : gw_G l V ad cc own nL ret f lo Qp X h pc ls st := by
  obtain ⟨p, e, s, m, args, below, meth, cx, D, cI⟩ := X
  intro ok H locs lsA hP hD hS hl
  have hGI : GoodIn gw_W0 (wsV own idx C y (gw_U y yc yn yr)) := gw_gi4 (gw_giU hm.1) hlk hm.2.1 hm.2.2.1 hm.2.2.2.1
  subst hv
  exact va_calli (va_runV (As := As) (rest := rest) ⟨ok.1, ok.2.1, ok.2.2.1, ok.2.2.2.1, ok.2.2.2.2.1⟩ (hC D cI H.size) (cwV (C := C) k ok.2.2.2.2.1 hGI rfl rfl rfl hm.2.2.2.2 ⟨hR.1, hR.2⟩) ⟨gw_blind, by rw [hCs]; exact vk_recv (adK := fun i => ad (1000 + i)) (i := i) ok.2.2.2.2.2.2.2.2.1.2.1 hi hS, fun U hU hW => gw_start (As := .ref (ad (1000 + i)) :: As) hP hD hS ok.2.2.2.2.2.2.2.1 ok.2.2.2.2.2.2.2.2.1 U hU hW⟩ rfl hn hl.1 hst (gw_room hw8) hdg ⟨Nat.zero_le _, Nat.zero_le _⟩) hS (fun q _ hq => gw_free hS.1 q hq) (gw_free hS.1) (fun r u t H1 locs1 ht hvm hw hB hz hk hS1 => by
    subst ht
    exact kk r u hw ok t.heap locs1 lsA hB (gw_D u hD) hS1 hl)
theorem gw_callSi {k idx yn yf ylo : Nat} {y : MethodName} {yc : ByteArray} {yr : Option FieldType} {C : String} {As rest : List Value} {Qc : Int32 → gw_H → Prop} {yt : FieldType} (hv : yr = some yt) (hC : gw_C l y yc yn yr yf ylo V ad As h Qc) (hm : gw_MS y yc yn yr C k) (hlk : Cond.methodLink own idx y ∈ gw_W0)   (hn : As.length = k) (hst : st = As.reverse ++ rest) (hR : yf + 1 ≤ f ∧ 8 + (yn + 11) + ylo ≤ lo) (hw8 : (rest.map fun v => v.category).sum ≤ 8) (hdg : decode cc pc = .ok (.invokestatic idx, 3))
    (kk : ∀ (r : Int32) (h' : gw_H), Qc r h' → gw_G l V ad cc own nL ret f lo Qp X h' (pc + 3) ls (.int r :: rest)) : gw_G l V ad cc own nL ret f lo Qp X h pc ls st := by
  obtain ⟨p, e, s, m, args, below, meth, cx, D, cI⟩ := X
  intro ok H locs lsA hP hD hS hl
  have hGI : GoodIn gw_W0 (va_wsS own idx y (gw_U y yc yn yr)) := gw_gi3 (gw_giU hm.1) hlk hm.2.1 (by rw [hm.2.2.2.1]; exact hm.2.2.1)
  subst hv
  exact va_calli (va_runS (As := As) (rest := rest) ⟨ok.1, ok.2.1, ok.2.2.1, ok.2.2.2.1, ok.2.2.2.2.1⟩ (hC D cI H.size) (va_cwS k ok.2.2.2.2.1 hGI rfl rfl rfl hm.2.2.2.2 ⟨hR.1, hR.2⟩) ⟨gw_blind, fun U hU hW => gw_start (As := As) hP hD hS ok.2.2.2.2.2.2.2.1 ok.2.2.2.2.2.2.2.2.1 U hU hW⟩ rfl hn hl.1 hst (gw_room hw8) hdg ⟨Nat.zero_le _, Nat.zero_le _⟩) hS (fun q _ hq => gw_free hS.1 q hq) (gw_free hS.1) (fun r u t H1 locs1 ht hvm hw hB hz hk hS1 => by
    subst ht
    exact kk r u hw ok t.heap locs1 lsA hB (gw_D u hD) hS1 hl)
theorem gw_callSv {k idx yn yf ylo : Nat} {y : MethodName} {yc : ByteArray} {yr : Option FieldType} {C : String} {As rest : List Value} {Qc : Int32 → gw_H → Prop} (hv : yr = none) (hC : gw_C l y yc yn yr yf ylo V ad As h Qc) (hm : gw_MS y yc yn yr C k) (hlk : Cond.methodLink own idx y ∈ gw_W0)   (hn : As.length = k) (hst : st = As.reverse ++ rest) (hR : yf + 1 ≤ f ∧ 8 + (yn + 11) + ylo ≤ lo) (hw8 : (rest.map fun v => v.category).sum ≤ 8) (hdg : decode cc pc = .ok (.invokestatic idx, 3))
    (kk : ∀ h' : gw_H, Qc 0 h' → gw_G l V ad cc own nL ret f lo Qp X h' (pc + 3) ls rest) : gw_G l V ad cc own nL ret f lo Qp X h pc ls st := by
  obtain ⟨p, e, s, m, args, below, meth, cx, D, cI⟩ := X
  intro ok H locs lsA hP hD hS hl
  have hGI : GoodIn gw_W0 (va_wsS own idx y (gw_U y yc yn yr)) := gw_gi3 (gw_giU hm.1) hlk hm.2.1 (by rw [hm.2.2.2.1]; exact hm.2.2.1)
  subst hv
  exact va_callv (va_runS (As := As) (rest := rest) ⟨ok.1, ok.2.1, ok.2.2.1, ok.2.2.2.1, ok.2.2.2.2.1⟩ (hC D cI H.size) (va_cwS k ok.2.2.2.2.1 hGI rfl rfl rfl hm.2.2.2.2 ⟨hR.1, hR.2⟩) ⟨gw_blind, fun U hU hW => gw_start (As := As) hP hD hS ok.2.2.2.2.2.2.2.1 ok.2.2.2.2.2.2.2.2.1 U hU hW⟩ rfl hn hl.1 hst (gw_room hw8) hdg ⟨Nat.zero_le _, Nat.zero_le _⟩) hS (fun q _ hq => gw_free hS.1 q hq) (gw_free hS.1) (fun u t H1 locs1 ht hvm hw hB hz hk hS1 => by
    subst ht
    exact kk u hw ok t.heap locs1 lsA hB (gw_D u hD) hS1 hl)
theorem gw_callNi {k idx yn yf ylo : Nat} {y : MethodName} {yc : ByteArray} {yr : Option FieldType} {C : String} {host : String} {As rest : List Value} {Qc : Int32 → gw_H → Prop} {yt : FieldType} (hv : yr = some yt) (hC : gw_C l y yc yn yr yf ylo V ad As h Qc) (hm : gw_MS y yc yn yr C k) (hlk : Cond.methodLinkNest own idx y host ∈ gw_nest)   (hn : As.length = k) (hst : st = As.reverse ++ rest) (hR : yf + 1 ≤ f ∧ 8 + (yn + 11) + ylo ≤ lo) (hw8 : (rest.map fun v => v.category).sum ≤ 8) (hdg : decode cc pc = .ok (.invokestatic idx, 3))
    (kk : ∀ (r : Int32) (h' : gw_H), Qc r h' → gw_G l V ad cc own nL ret f lo Qp X h' (pc + 3) ls (.int r :: rest)) : gw_G l V ad cc own nL ret f lo Qp X h pc ls st := by
  obtain ⟨p, e, s, m, args, below, meth, cx, D, cI⟩ := X
  intro ok H locs lsA hP hD hS hl
  have hGI : GoodIn gw_W0 (gw_U y yc yn yr) := gw_giU hm.1
  subst hv
  exact va_calli (va_runSN (As := As) (rest := rest) ⟨ok.1, ok.2.1, ok.2.2.1, ok.2.2.2.1, ok.2.2.2.2.1⟩ (hC D cI H.size) (⟨va_cnB (host := host) k ok.2.2.2.2.1 hGI rfl rfl rfl (ok.2.2.2.2.2.2.2.2.1.1 _ hlk) (by rw [hm.2.2.2.1]; exact ok.2.2.2.2.1 _ hm.2.2.1) hm.2.2.2.2 ⟨hR.1, hR.2⟩, ok.2.2.2.2.1 _ hm.2.1, trivial⟩) ⟨gw_blind, fun U hU hW => gw_start (As := As) hP hD hS ok.2.2.2.2.2.2.2.1 ok.2.2.2.2.2.2.2.2.1 U hU hW⟩ rfl hn hl.1 hst (gw_room hw8) hdg ⟨Nat.zero_le _, Nat.zero_le _⟩) hS (fun q _ hq => gw_free hS.1 q hq) (gw_free hS.1) (fun r u t H1 locs1 ht hvm hw hB hz hk hS1 => by
    subst ht
    exact kk r u hw ok t.heap locs1 lsA hB (gw_D u hD) hS1 hl)
theorem gw_callNv {k idx yn yf ylo : Nat} {y : MethodName} {yc : ByteArray} {yr : Option FieldType} {C : String} {host : String} {As rest : List Value} {Qc : Int32 → gw_H → Prop} (hv : yr = none) (hC : gw_C l y yc yn yr yf ylo V ad As h Qc) (hm : gw_MS y yc yn yr C k) (hlk : Cond.methodLinkNest own idx y host ∈ gw_nest)   (hn : As.length = k) (hst : st = As.reverse ++ rest) (hR : yf + 1 ≤ f ∧ 8 + (yn + 11) + ylo ≤ lo) (hw8 : (rest.map fun v => v.category).sum ≤ 8) (hdg : decode cc pc = .ok (.invokestatic idx, 3))
    (kk : ∀ h' : gw_H, Qc 0 h' → gw_G l V ad cc own nL ret f lo Qp X h' (pc + 3) ls rest) : gw_G l V ad cc own nL ret f lo Qp X h pc ls st := by
  obtain ⟨p, e, s, m, args, below, meth, cx, D, cI⟩ := X
  intro ok H locs lsA hP hD hS hl
  have hGI : GoodIn gw_W0 (gw_U y yc yn yr) := gw_giU hm.1
  subst hv
  exact va_callv (va_runSN (As := As) (rest := rest) ⟨ok.1, ok.2.1, ok.2.2.1, ok.2.2.2.1, ok.2.2.2.2.1⟩ (hC D cI H.size) (⟨va_cnB (host := host) k ok.2.2.2.2.1 hGI rfl rfl rfl (ok.2.2.2.2.2.2.2.2.1.1 _ hlk) (by rw [hm.2.2.2.1]; exact ok.2.2.2.2.1 _ hm.2.2.1) hm.2.2.2.2 ⟨hR.1, hR.2⟩, ok.2.2.2.2.1 _ hm.2.1, trivial⟩) ⟨gw_blind, fun U hU hW => gw_start (As := As) hP hD hS ok.2.2.2.2.2.2.2.1 ok.2.2.2.2.2.2.2.2.1 U hU hW⟩ rfl hn hl.1 hst (gw_room hw8) hdg ⟨Nat.zero_le _, Nat.zero_le _⟩) hS (fun q _ hq => gw_free hS.1 q hq) (gw_free hS.1) (fun u t H1 locs1 ht hvm hw hB hz hk hS1 => by
    subst ht
    exact kk u hw ok t.heap locs1 lsA hB (gw_D u hD) hS1 hl)
theorem gw_mmin {idx : Nat} {x y : Int32} (hlk : Cond.methodLink own idx Lib.Math.min.name ∈ gw_W0) (hR : 1 ≤ f ∧ 21 ≤ lo) (hw8 : (st.map fun v => v.category).sum ≤ 8) (hdg : decode cc pc = .ok (.invokestatic idx, 3)) (kk : gw_G l V ad cc own nL ret f lo Qp X h (pc + 3) ls (.int (if y < x then y else x) :: st)) : gw_G l V ad cc own nL ret f lo Qp X h pc ls (.int y :: .int x :: st) :=
  gw_keep (fun _ _ _ _ _ _ _ _ _ _ ok _ _ _ _ _ hl w => va_mmin ok.1 ok.2.1 (ok.2.2.1.trans hl.1.symm) ok.2.2.2.1 (ok.2.2.2.2.1 _ hlk) (ok.2.2.2.2.1 _ wd_min.1) (ok.2.2.2.2.1 _ wd_min.2.1) (ok.2.2.2.2.1 _ wd_min.2.2) hR.1 (by have := hR.2; show _ ≤ lo; omega) (Nat.le_refl _) (Nat.le_refl _) hdg w) kk
theorem gw_mmax {idx : Nat} {x y : Int32} (hlk : Cond.methodLink own idx Lib.Math.max.name ∈ gw_W0) (hR : 1 ≤ f ∧ 21 ≤ lo) (hw8 : (st.map fun v => v.category).sum ≤ 8) (hdg : decode cc pc = .ok (.invokestatic idx, 3)) (kk : gw_G l V ad cc own nL ret f lo Qp X h (pc + 3) ls (.int (if x < y then y else x) :: st)) : gw_G l V ad cc own nL ret f lo Qp X h pc ls (.int y :: .int x :: st) :=
  gw_keep (fun _ _ _ _ _ _ _ _ _ _ ok _ _ _ _ _ hl w => va_mmax ok.1 ok.2.1 (ok.2.2.1.trans hl.1.symm) ok.2.2.2.1 (ok.2.2.2.2.1 _ hlk) (ok.2.2.2.2.1 _ wd_max.1) (ok.2.2.2.2.1 _ wd_max.2.1) (ok.2.2.2.2.1 _ wd_max.2.2) hR.1 (by have := hR.2; show _ ≤ lo; omega) (Nat.le_refl _) (Nat.le_refl _) hdg w) kk
theorem gw_copy {idx c0 c1 n0 n1 : Nat} {n : Int32} (hlk : Cond.methodLink own idx arraycopyName ∈ gw_W0) (hA0 : gw_Ar V c0 n0) (hA1 : gw_Ar V c1 n1) (hc : ¬ n < 0 ∧ n.toNatClampNeg ≤ n0 ∧ n.toNatClampNeg ≤ n1) (hR : 1 ≤ f) (hlo : (st.map fun v => v.category).sum + (nativeFrameWords "java/lang/System" "arraycopy" 5 + 11) ≤ lo) (hdg : decode cc pc = .ok (.invokestatic idx, 3)) (kk : gw_G l V ad cc own nL ret f lo Qp X (gw_st h c1 (va_cpy (h c0) (h c1) 0 0 n.toNatClampNeg)) (pc + 3) ls st) : gw_G l V ad cc own nL ret f lo Qp X h pc ls (.int n :: .int 0 :: .ref (ad c1) :: .int 0 :: .ref (ad c0) :: st) := by
  obtain ⟨p, e, s, m, args, below, meth, cx, D, cI⟩ := X
  intro ok H locs lsA hP hD hS hl
  have z0 : ((0 : Int32).toNatClampNeg) = 0 := by decide
  refine va_copyi (ty := .int) ok.1 ok.2.1 (ok.2.2.1.trans hl.1.symm) ok.2.2.2.1 (ok.2.2.2.2.1 _ hlk) (ok.2.2.2.2.1 _ wd_acopy.1) (ok.2.2.2.2.1 _ wd_acopy.2.1) (ok.2.2.2.2.1 _ wd_acopy.2.2) ok.2.2.2.2.2.2.2.1 hP hD hS c0 c1 0 0 (hA0.at cI ad h) (hA1.at cI ad h) rfl rfl rfl (by decide) (by decide) hc.1 (by rw [z0, Nat.zero_add]; exact hc.2.1) (by rw [z0, Nat.zero_add]; exact hc.2.2) (fun _ _ => rfl) hR hlo hdg (fun H1 locs1 hP1 hD1 hS1 => ?_)
  rw [z0] at hP1 hD1
  have e1 : (gw_ws V cI ad h).set c1 (ad c1, .inl (cI, n1, .inl (va_cpy (h c0) (h c1) 0 0 n.toNatClampNeg))) = gw_ws V cI ad (gw_st h c1 (va_cpy (h c0) (h c1) 0 0 n.toNatClampNeg)) := by
    rw [← hA1.2 cI ad (va_cpy (h c0) (h c1) 0 0 n.toNatClampNeg)]
    exact gw_set _ hA1.1
  rw [e1] at hP1 hD1
  exact kk ok H1 locs1 lsA hP1 hD1 hS1 hl
/-- strings -/
theorem gw_keepS {pc' : Nat} {st' : List Value} (hr : ∀ (p : Program) (e : Env) (s : State) (m : MethodId) (args : Array Value) (below : List Frame) (meth : Method) (c : Code) (D : va_G) (cI : ClassId), gw_OK l V ad cc own nL ret (p, e, s, m, args, below, meth, c, D, cI) → ∀ (H : Heap) (locs : List Loc) (lsA : Array Slot) (Q : State → Prop), va_S (gw_A V.1 ad s.heap.size) s.heap H locs → gw_lok lsA nL ls → W p l e (gw_R f lo) s m args below meth c H locs 0 0 Q (F0 m pc' lsA st') → W p l e (gw_R f lo) s m args below meth c H locs 0 0 Q (F0 m pc lsA st))
    (k : gw_G l V ad cc own nL ret f lo Qp X h pc' ls st') : gw_G l V ad cc own nL ret f lo Qp X h pc ls st := by
  obtain ⟨p, e, s, m, args, below, meth, c, D, cI⟩ := X
  intro ok H locs lsA hP hD hS hl
  exact hr p e s m args below meth c D cI ok H locs lsA _ hS hl (k ok H locs lsA hP hD hS hl)
theorem gw_ldcS0 (hown : own = "SongThatStays$Text") (hdg : decode cc pc = .ok (.ldc 34, 2)) (kk : gw_G l V ad cc own nL ret f lo Qp X h (pc + 2) ls (.ref (ad (1000 + 0)) :: st)) : gw_G l V ad cc own nL ret f lo Qp X h pc ls st :=
  gw_keep (fun _ _ _ _ _ _ _ _ _ _ ok _ _ _ _ _ _ w => va_ldcS ok.1 ok.2.1 ok.2.2.2.1 (hown ▸ ok.2.2.2.2.2.2.2.2.1.2.2.1) hdg w) kk
theorem gw_ldcS1 (hown : own = "SongThatStays$Text") (hdg : decode cc pc = .ok (.ldc 36, 2)) (kk : gw_G l V ad cc own nL ret f lo Qp X h (pc + 2) ls (.ref (ad (1000 + 1)) :: st)) : gw_G l V ad cc own nL ret f lo Qp X h pc ls st :=
  gw_keep (fun _ _ _ _ _ _ _ _ _ _ ok _ _ _ _ _ _ w => va_ldcS ok.1 ok.2.1 ok.2.2.2.1 (hown ▸ ok.2.2.2.2.2.2.2.2.1.2.2.2.1) hdg w) kk
theorem gw_sval {i idx : Nat} (hi : i < 2) (hlk : Cond.fieldLink own idx "java/lang/String" "value" "[B" ∈ gw_W0) (hdg : decode cc pc = .ok (.getfield idx, 3)) (kk : gw_G l V ad cc own nL ret f lo Qp X h (pc + 3) ls (.ref (ad (1010 + i)) :: st)) : gw_G l V ad cc own nL ret f lo Qp X h pc ls (.ref (ad (1000 + i)) :: st) :=
  gw_keepS (fun _ _ _ _ _ _ _ _ _ _ ok _ _ _ _ hS _ w => vk_getf (ref := "java/lang/String") ok.1 ok.2.1 (ok.2.2.2.2.2.2.2.2.1.2.1.1 i hi).2.2.1 hS ok.2.2.2.1 (ok.2.2.2.2.1 _ hlk) (fun _ h9 => h9) hdg w) kk
theorem gw_scod {i idx : Nat} (hi : i < 2) (hlk : Cond.fieldLink own idx "java/lang/String" "coder" "B" ∈ gw_W0) (hdg : decode cc pc = .ok (.getfield idx, 3)) (kk : gw_G l V ad cc own nL ret f lo Qp X h (pc + 3) ls (.int 0 :: st)) : gw_G l V ad cc own nL ret f lo Qp X h pc ls (.ref (ad (1000 + i)) :: st) :=
  gw_keepS (fun _ _ _ _ _ _ _ _ _ _ ok _ _ _ _ hS _ w => vk_getf (ref := "java/lang/String") ok.1 ok.2.1 (ok.2.2.2.2.2.2.2.2.1.2.1.1 i hi).2.1 hS ok.2.2.2.1 (ok.2.2.2.2.1 _ hlk) (fun _ h9 => h9) hdg w) kk
theorem gw_slen {i : Nat} (hi : i < 2) (hdg : decode cc pc = .ok (.arraylength, 1)) (kk : gw_G l V ad cc own nL ret f lo Qp X h (pc + 1) ls (.int (Int32.ofNat (gw_len2.getD i 0)) :: st)) : gw_G l V ad cc own nL ret f lo Qp X h pc ls (.ref (ad (1010 + i)) :: st) :=
  gw_keepS (fun _ _ _ _ _ _ _ _ _ _ ok _ _ _ _ hS _ w => va_tlen ok.1 ok.2.1 (ok.2.2.2.2.2.2.2.2.1.2.1.1 i hi).2.2.2 hS rfl hdg w) kk
theorem gw_sbald {i : Nat} {j : Int32} (hi : i < 2) (hin : vp_in j (gw_len2.getD i 0)) (hdg : decode cc pc = .ok (.baload, 1)) (kk : gw_G l V ad cc own nL ret f lo Qp X h (pc + 1) ls (.int ((gw_byt2.getD i []).getD j.toNatClampNeg 0) :: st)) : gw_G l V ad cc own nL ret f lo Qp X h pc ls (.int j :: .ref (ad (1010 + i)) :: st) :=
  gw_keepS (fun _ _ _ _ _ _ _ _ _ _ ok _ _ _ _ hS _ w => va_tb ok.1 ok.2.1 (ok.2.2.2.2.2.2.2.2.1.2.1.1 i hi).2.2.2 hS hin rfl hdg w) kk
theorem gw_gets {idx : Nat} (hlk : Cond.fieldLink own idx "java/lang/String" "COMPACT_STRINGS" "Z" ∈ gw_W0) (hdg : decode cc pc = .ok (.getstatic idx, 3)) (kk : gw_G l V ad cc own nL ret f lo Qp X h (pc + 3) ls (.int 1 :: st)) : gw_G l V ad cc own nL ret f lo Qp X h pc ls st :=
  gw_keepS (fun _ _ _ _ _ _ _ _ _ _ ok _ _ _ _ hS _ w => va_gets (ref := "java/lang/String") ok.1 ok.2.1 ok.2.2.2.2.2.2.2.2.1.2.2.2.2 hS ok.2.2.2.1 (ok.2.2.2.2.1 _ hlk) (fun _ h9 => h9) hdg w) kk
theorem gw_i2b {x v : Int32} (hdg : decode cc pc = .ok (.i2b, 1)) (hv : x.toInt8.toInt32 = v) (kk : gw_G l V ad cc own nL ret f lo Qp X h (pc + 1) ls (.int v :: st)) : gw_G l V ad cc own nL ret f lo Qp X h pc ls (.int x :: st) :=
  gw_keep (fun _ _ _ _ _ _ _ _ _ _ ok _ _ _ _ _ _ w => lv_i2b ok.1 ok.2.1 hdg hv w) kk

end GWR
