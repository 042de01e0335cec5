/-! ## THE LAW, FROM ITS ENTRY -/
def gl_s0 : Nat → Int32 := fun i => if i = 5 then 6 else 0
theorem gl_R0 : RR gi_hC gi_hM := by
  refine ⟨gl_s0, 0, 0, 0, 0, ⟨⟨by omega, by omega, by omega, by omega⟩, ⟨rfl, rfl, rfl, rfl⟩, ⟨6, by omega, by omega, rfl⟩, ⟨0, by omega, rfl⟩, fun d hd => by omega, fun d hd => by omega, fun d hd => by omega⟩, by omega, ⟨⟨rfl, rfl, rfl, rfl, rfl⟩, fun d hd => by omega, fun d hd => by omega, fun d hd => by omega⟩, fun i hi => ?_, ⟨rfl, Or.inl rfl⟩, ⟨0, by omega, rfl, rfl, fun d hd => by omega⟩, ⟨0, by omega, rfl, rfl, fun d hd => by omega⟩, fun i hi => rfl⟩
  show upd (fun _ => 0) (5 : Int32).toNatClampNeg 6 i = gl_s0 i
  rw [cl_5]
  rfl
/-- the addresses of strings beside the worlds' -/
def gl_ad (ad g : Nat → Nat) : Nat → Nat := fun k => if k < 100 then ad k else g k
theorem gl_ad_lt {ad g : Nat → Nat} {k : Nat} (h : k < 100) : gl_ad ad g k = ad k := if_pos h
theorem gl_vO {cI : ClassId} {ad g : Nat → Nat} {v : Nat → Int32} {b k : Nat} (hb : gw_b b) (hk : k < 23) : vO_cell cI (gl_ad ad g) v b k = vO_cell cI ad v b k := by
  have z : ∀ j, j < 23 → gl_ad ad g (b + j) = ad (b + j) := fun j hj => gl_ad_lt (by rcases hb with rfl | rfl | rfl <;> omega)
  unfold vO_cell
  simp only [fsX2, fsX0, fsX3, fsX1, z 1 (by omega), z 2 (by omega), z 3 (by omega), z 4 (by omega), z 5 (by omega), z 6 (by omega), z 7 (by omega), z 8 (by omega), z 9 (by omega), z 10 (by omega), z 11 (by omega), z 12 (by omega), z 13 (by omega), z 14 (by omega), z 15 (by omega), z 16 (by omega), z 17 (by omega), z 18 (by omega), z 19 (by omega), z 20 (by omega), z 21 (by omega), z 22 (by omega)]
theorem gl_vC {cI : ClassId} {ad g : Nat → Nat} {v : Nat → Int32} {c : Nat} (hc : c < 74) : vC_cell cI (gl_ad ad g) v c = vC_cell cI ad v c := by
  have z : ∀ j, j < 100 → gl_ad ad g j = ad j := fun j hj => gl_ad_lt hj
  unfold vC_cell
  by_cases h0 : c = 0
  · rw [if_pos h0, if_pos h0]
    show (Sum.inr (5, _) : va_E) = Sum.inr (5, _)
    simp only [fsX5, z 1 (by omega), z 24 (by omega), z 47 (by omega), z 70 (by omega), z 72 (by omega), z 73 (by omega)]
  · rw [if_neg h0, if_neg h0]
    by_cases h1 : c < 24
    · rw [if_pos h1, if_pos h1]; exact gl_vO hb1 (by omega)
    · rw [if_neg h1, if_neg h1]
      by_cases h2 : c < 47
      · rw [if_pos h2, if_pos h2]; exact gl_vO hb24 (by omega)
      · rw [if_neg h2, if_neg h2]
        by_cases h3 : c < 70
        · rw [if_pos h3, if_pos h3]; exact gl_vO hb47 (by omega)
        · rw [if_neg h3, if_neg h3]
          simp only [fsX4, z 71 (by omega)]
theorem gl_vM {cI : ClassId} {ad g : Nat → Nat} {v : Nat → Int32} {c : Nat} : vM_cell cI (gl_ad ad g) v c = vM_cell cI ad v c := by
  have z : ∀ j, j < 100 → gl_ad ad g j = ad j := fun j hj => gl_ad_lt hj
  unfold vM_cell
  simp only [fsX6, z 1 (by omega), z 2 (by omega), z 3 (by omega), z 4 (by omega), z 5 (by omega), z 6 (by omega), z 7 (by omega), z 8 (by omega), z 9 (by omega), z 10 (by omega), z 11 (by omega), z 12 (by omega), z 13 (by omega)]
theorem gl_wsC {cI : ClassId} {ad g : Nat → Nat} {h : gw_H} : gw_ws vC cI (gl_ad ad g) h = gw_ws vC cI ad h := by
  unfold gw_ws
  refine List.map_congr_left (fun c hc => ?_)
  have h74 : c < 74 := List.mem_range.mp hc
  show (gl_ad ad g c, vC_cell cI (gl_ad ad g) (h c) c) = (ad c, vC_cell cI ad (h c) c)
  rw [gl_ad_lt (by omega), gl_vC h74]
theorem gl_wsM {cI : ClassId} {ad g : Nat → Nat} {h : gw_H} : gw_ws vM cI (gl_ad ad g) h = gw_ws vM cI ad h := by
  unfold gw_ws
  refine List.map_congr_left (fun c hc => ?_)
  have h14 : c < 14 := List.mem_range.mp hc
  show (gl_ad ad g c, vM_cell cI (gl_ad ad g) (h c) c) = (ad c, vM_cell cI ad (h c) c)
  rw [gl_ad_lt (by omega), gl_vM]
/-- nest words -/
theorem gl_nest {s : State} {args : Array Value} (h : ∀ w ∈ lw_tbl, w.before args s = true) : gw_N s := by
  intro w hw
  obtain ⟨h1, h2⟩ := List.mem_filter.mp hw
  have hb := h w h1
  unfold gw_isNest at h2
  split at h2
  · exact va_Nw.of rfl hb
  · exact va_Nw.of rfl hb
  · cases h2
/-- the classes, and arrays of ints -/
theorem gl_K {s : State} {args : Array Value} (h : ∀ w ∈ gw_W0, w.before args s = true) : ∃ (D : va_G) (cI : ClassId), va_K D vwCl [(cI, .int)] s := by
  have k0 := u_known (C := RX0) (T := TX0) (N := 4) (n := 4) h inUX0 (h _ instX0)
  have k1 := u_known (C := RX1) (T := TX1) (N := 9) (n := 9) h inUX1 (h _ instX1)
  have k2 := u_known (C := RX2) (T := TX2) (N := 10) (n := 10) h inUX2 (h _ instX2)
  have k3 := u_known (C := RX3) (T := TX3) (N := 4) (n := 4) h inUX3 (h _ instX3)
  have k4 := u_known (C := RX4) (T := TX4) (N := 2) (n := 2) h inUX4 (h _ instX4)
  have k5 := u_known (C := RX5) (T := TX5) (N := 8) (n := 8) h inUX5 (h _ instX5)
  have k6 := u_known (C := RX6) (T := TX6) (N := 17) (n := 17) h inUX6 (h _ instX6)
  have all : ∀ k : Nat, ∃ x : ClassId × (Nat → Nat), ∀ q : vw_C, vwCl[k]? = some q → u_Kn s q.1 q.2.1 q.2.2 x.1 x.2 := by
    intro k
    match k with
    | 0 => obtain ⟨c, i, z⟩ := k0; exact ⟨(c, i), fun q hq => by cases hq; exact z⟩
    | 1 => obtain ⟨c, i, z⟩ := k1; exact ⟨(c, i), fun q hq => by cases hq; exact z⟩
    | 2 => obtain ⟨c, i, z⟩ := k2; exact ⟨(c, i), fun q hq => by cases hq; exact z⟩
    | 3 => obtain ⟨c, i, z⟩ := k3; exact ⟨(c, i), fun q hq => by cases hq; exact z⟩
    | 4 => obtain ⟨c, i, z⟩ := k4; exact ⟨(c, i), fun q hq => by cases hq; exact z⟩
    | 5 => obtain ⟨c, i, z⟩ := k5; exact ⟨(c, i), fun q hq => by cases hq; exact z⟩
    | 6 => obtain ⟨c, i, z⟩ := k6; exact ⟨(c, i), fun q hq => by cases hq; exact z⟩
    | k + 7 => exact ⟨(s.heap.size, fun _ => 0), fun q hq => by simp at hq⟩
  obtain ⟨f, hf⟩ := Classical.axiomOfChoice all
  obtain ⟨cI, kA, comp, h1, h2, h3⟩ := Cond.arrayClass_spec (h _ wd_arrI)
  refine ⟨(fun k => (f k).1, fun k => (f k).2), cI, fun k q hq => hf k q hq, fun k q hq => ?_⟩
  have hk := (List.getElem?_eq_some_iff.mp hq).1
  simp at hk
  subst hk
  simp at hq
  subst hq
  exact ⟨fun n z => ⟨fun k h => (by cases h), kA, h2, comp, h3⟩, h1⟩
