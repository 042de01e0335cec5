/-! what stays as it must be -/
def sp_hw (σ : Nat → Int32) (ns j : Nat) : Prop := (∃ k : Nat, k < 6 ∧ sp_hd σ j 0 = nI k) ∧ (∃ r : Nat, r < 5 ∧ sp_hd σ j 1 = nI r) ∧ (∃ q : Nat, q < 10 ∧ sp_hd σ j 2 = nI q) ∧ ((sp_hd σ j 3 = -9 ∧ sp_hd σ j 4 = 0) ∨ ∃ i : Nat, i < ns ∧ sp_hd σ j 3 = nI i) ∧ (∃ s : Nat, s ≤ 60 ∧ sp_hd σ j 4 = nI s) ∧ ∃ g : Nat, g ≤ 3 ∧ sp_hd σ j 5 = nI g
section CWF
variable {σ τ : Nat → Int32} {nd ns nh hr : Nat}
theorem sp_WF.hw (hW : sp_WF σ nd ns nh hr) {j : Nat} (hj : j < nh) : sp_hw σ ns j := hW.2.2.2.2.2.2 j hj
theorem sp_WF.hdc (hW : sp_WF σ nd ns nh hr) (j : Nat) (hlo : ∀ c, c < 37 → τ c = σ c) (hot : ∀ i k, i ≠ j → k < 6 → sp_hd τ i k = sp_hd σ i k) (hj : j < nh → sp_hw τ ns j) : sp_WF τ nd ns nh hr := by
  obtain ⟨b1, ⟨e0, e2, e3, e4⟩, ⟨lo, l1, l2, l3⟩, ⟨m, m1, m2⟩, hD, hS, hH⟩ := hW
  have b1' := b1
  obtain ⟨n8, n5, n6, -⟩ := b1'
  refine ⟨b1, ⟨by rw [hlo 0 (by omega), e0], by rw [hlo 2 (by omega), e2], by rw [hlo 3 (by omega), e3], by rw [hlo 4 (by omega), e4]⟩, ⟨lo, l1, l2, by rw [hlo 5 (by omega), l3]⟩, ⟨m, m1, by rw [hlo 1 (by omega), m2]⟩, fun d hd => ?_, fun i hi => ?_, fun i hi => ?_⟩
  · have a0 : sp_dr τ d 0 = sp_dr σ d 0 := hlo _ (by omega)
    have a1 : sp_dr τ d 1 = sp_dr σ d 1 := hlo _ (by omega)
    rw [a0, a1]; exact hD d hd
  · have a0 : sp_sg τ i 0 = sp_sg σ i 0 := hlo _ (by omega)
    have a1 : sp_sg τ i 1 = sp_sg σ i 1 := hlo _ (by omega)
    have a2 : sp_sg τ i 2 = sp_sg σ i 2 := hlo _ (by omega)
    rw [a0, a1, a2]; exact hS i hi
  · by_cases e : i = j
    · subst e; exact hj hi
    · rw [hot i 0 e (by omega), hot i 1 e (by omega), hot i 2 e (by omega), hot i 3 e (by omega), hot i 4 e (by omega), hot i 5 e (by omega)]
      exact hH i hi
theorem sp_frw (hW : sp_WF σ nd ns nh hr) {i : Nat} (hi : i < ns) : ∃ f : Nat, 1 ≤ f ∧ f ≤ 60 ∧ sp_fr σ i = nI f := by
  obtain ⟨-, ⟨p, p1, p2⟩, ⟨e, e1, e2, e3⟩⟩ := hW.2.2.2.2.2.1 i hi
  have v : 2 * sp_sg σ i 1 + sp_sg σ i 2 = nI (2 * p + e) := by
    rw [p2, e3, show (2 : Int32) = nI 2 from rfl, pk_mul, nI_add]
  unfold sp_fr
  rw [v]
  split
  · exact ⟨2 * p + e + 3, by omega, by omega, by rw [show (3 : Int32) = nI 3 from rfl, nI_add]⟩
  · split
    · exact ⟨2 * (2 * p + e + 3), by omega, by omega, by rw [show (3 : Int32) = nI 3 from rfl, nI_add, show (2 : Int32) = nI 2 from rfl, pk_mul]⟩
    · exact ⟨2 * p + e, by omega, by omega, rfl⟩
theorem sp_gtn (j : Nat) : sp_gt σ j (-9) = upd (upd σ (37 + 6 * j + 3) (-9)) (37 + 6 * j + 4) 0 := by unfold sp_gt; exact if_pos n9_lt
theorem sp_gts (j : Nat) {i : Nat} (hi : i < 100) : sp_gt σ j (nI i) = upd (upd σ (37 + 6 * j + 3) (nI i)) (37 + 6 * j + 4) (sp_fr σ i) := by
  unfold sp_gt; rw [if_neg (nI_pos (by omega)), nI_clamp (by omega)]
theorem sp_gtlo (j : Nat) (s : Int32) {c : Nat} (hc : c < 37) : sp_gt σ j s c = σ c := by
  unfold sp_gt; split <;> rw [sp_lo hc, sp_lo hc]
theorem sp_gthd (j : Nat) (s : Int32) {i k : Nat} (hk : k < 6) : sp_hd (sp_gt σ j s) i k = if i = j ∧ k = 3 then (if s < 0 then -9 else s) else if i = j ∧ k = 4 then (if s < 0 then 0 else sp_fr σ s.toNatClampNeg) else sp_hd σ i k := by
  unfold sp_gt
  by_cases h : s < 0
  · simp only [if_pos h]
    rw [sp_hdu (by omega) hk, sp_hdu (by omega) hk]
    by_cases a : i = j ∧ k = 4
    · have : ¬ (i = j ∧ k = 3) := by omega
      rw [if_pos a, if_neg this, if_pos a]
    · rw [if_neg a, if_neg a]
  · simp only [if_neg h]
    rw [sp_hdu (by omega) hk, sp_hdu (by omega) hk]
    by_cases a : i = j ∧ k = 4
    · have : ¬ (i = j ∧ k = 3) := by omega
      rw [if_pos a, if_neg this, if_pos a]
    · rw [if_neg a, if_neg a]
theorem sp_WF.gt (hW : sp_WF σ nd ns nh hr) (j : Nat) {s : Int32} (hs : s = -9 ∨ ∃ i, i < ns ∧ s = nI i) : sp_WF (sp_gt σ j s) nd ns nh hr := by
  have h5 : ns ≤ 5 := hW.1.2.1
  refine hW.hdc j (fun c hc => sp_gtlo j s hc) (fun i k hi hk => ?_) (fun hj => ?_)
  · rw [sp_gthd j s hk, if_neg (fun z => hi z.1), if_neg (fun z => hi z.1)]
  · obtain ⟨g0, g1, g2, g3, g4, g5⟩ := hW.hw hj
    unfold sp_hw
    rw [sp_gthd j s (by omega), sp_gthd j s (by omega), sp_gthd j s (by omega), sp_gthd j s (by omega), sp_gthd j s (by omega), sp_gthd j s (by omega)]
    rcases hs with rfl | ⟨i, hi, rfl⟩
    · exact ⟨by simpa using g0, by simpa using g1, by simpa using g2, Or.inl ⟨by simp [n9_lt], by simp [n9_lt]⟩, ⟨0, by omega, by simp [n9_lt]; rfl⟩, by simpa using g5⟩
    · obtain ⟨f, f1, f2, f3⟩ := sp_frw hW hi
      have hn : ¬ nI i < 0 := nI_pos (by omega)
      exact ⟨by simpa using g0, by simpa using g1, by simpa using g2, Or.inr ⟨i, hi, by simp [hn]⟩, ⟨f, by omega, by simp [hn, nI_clamp (show i < 2 ^ 31 by omega), f3]⟩, by simpa using g5⟩
theorem sp_WF.st (hW : sp_WF σ nd ns nh hr) (j : Nat) {v : Int32} (hh : j < nh → 0 ≤ sp_hd σ j 3) (hv : ∃ s : Nat, s ≤ 60 ∧ v = nI s) : sp_WF (upd σ (37 + 6 * j + 4) v) nd ns nh hr := by
  refine hW.hdc j (fun c hc => sp_lo hc) (fun i k hi hk => ?_) (fun hj => ?_)
  · rw [sp_hdu (by omega) hk, if_neg (fun z => hi z.1)]
  · obtain ⟨g0, g1, g2, g3, g4, g5⟩ := hW.hw hj
    unfold sp_hw
    rw [sp_hdu (by omega) (by omega), sp_hdu (by omega) (by omega), sp_hdu (by omega) (by omega), sp_hdu (by omega) (by omega), sp_hdu (by omega) (by omega), sp_hdu (by omega) (by omega)]
    refine ⟨by simpa using g0, by simpa using g1, by simpa using g2, Or.inr ?_, by simpa using hv, by simpa using g5⟩
    rcases g3 with ⟨q, -⟩ | q
    · have := hh hj; rw [q] at this; exact absurd this n9_neg
    · simpa using q
theorem sp_WF.gm (hW : sp_WF σ nd ns nh hr) (j : Nat) {v : Int32} (hv : j < nh → ∃ s : Nat, s ≤ 3 ∧ v = nI s) : sp_WF (upd σ (37 + 6 * j + 5) v) nd ns nh hr := by
  refine hW.hdc j (fun c hc => sp_lo hc) (fun i k hi hk => ?_) (fun hj => ?_)
  · rw [sp_hdu (by omega) hk, if_neg (fun z => hi z.1)]
  · obtain ⟨g0, g1, g2, g3, g4, g5⟩ := hW.hw hj
    unfold sp_hw
    rw [sp_hdu (by omega) (by omega), sp_hdu (by omega) (by omega), sp_hdu (by omega) (by omega), sp_hdu (by omega) (by omega), sp_hdu (by omega) (by omega), sp_hdu (by omega) (by omega)]
    exact ⟨by simpa using g0, by simpa using g1, by simpa using g2, by simpa using g3, by simpa using g4, by simpa using hv hj⟩
theorem sp_WF.pl (hW : sp_WF σ nd ns nh hr) (j : Nat) {v : Int32} (hv : ∃ s : Nat, s < 5 ∧ v = nI s) : sp_WF (upd σ (37 + 6 * j + 1) v) nd ns nh hr := by
  refine hW.hdc j (fun c hc => sp_lo hc) (fun i k hi hk => ?_) (fun hj => ?_)
  · rw [sp_hdu (by omega) hk, if_neg (fun z => hi z.1)]
  · obtain ⟨g0, g1, g2, g3, g4, g5⟩ := hW.hw hj
    unfold sp_hw
    rw [sp_hdu (by omega) (by omega), sp_hdu (by omega) (by omega), sp_hdu (by omega) (by omega), sp_hdu (by omega) (by omega), sp_hdu (by omega) (by omega), sp_hdu (by omega) (by omega)]
    exact ⟨by simpa using g0, by simpa using hv, by simpa using g2, by simpa using g3, by simpa using g4, by simpa using g5⟩
theorem sp_60 {v : Int32} (h1 : ¬ v ≤ 0) (h2 : v ≤ 60) : ∃ s : Nat, s ≤ 60 ∧ v = nI s :=
  nI_of2 (M := 60) (n := 60) (by decide) (fun z => h1 (by rw [Int32.le_iff_toInt_le]; rw [Int32.lt_iff_toInt_lt] at z; omega)) h2
theorem sp_WF.sv (hW : sp_WF σ nd ns nh hr) (j : Nat) {v : Int32} (hh : j < nh → 0 ≤ sp_hd σ j 3) (hv : v ≤ 60) : sp_WF (sp_sv σ j v) nd ns nh hr := by
  unfold sp_sv
  split
  · exact hW.gt j (Or.inl rfl)
  · rename_i h; exact hW.st j hh (sp_60 h hv)
theorem sp_min (x : Int32) : (if 60 < x then 60 else x) ≤ 60 := by
  split
  · exact Int32.le_refl _
  · rename_i h; exact Int32.not_lt.mp h
theorem sp_WF.wa (hW : sp_WF σ nd ns nh hr) (j : Nat) : sp_WF (sp_wa σ j) nd ns nh hr := by
  unfold sp_wa
  split
  · exact hW
  · rename_i h; exact hW.sv j (fun _ => Int32.not_lt.mp h) (sp_min _)
theorem sp_WF.ch (hW : sp_WF σ nd ns nh hr) {j : Nat} (hj : j < nh) : sp_WF (sp_ch σ j) nd ns nh hr := by
  unfold sp_ch
  split
  · rename_i h
    refine hW.gm j (fun _ => ?_)
    obtain ⟨g, g1, g2⟩ := (hW.hw hj).2.2.2.2.2
    rw [g2] at h ⊢
    have : 0 < g := (nI_ltI (a := 0) (by omega) (by omega)).mp h
    exact ⟨g - 1, by omega, by rw [show (1 : Int32) = nI 1 from rfl, pk_sub (by omega)]⟩
  · exact hW
theorem sp_WF.fo (hW : sp_WF σ nd ns nh hr) : ∀ k, k ≤ nh → sp_WF (sp_fo σ nd nh k) nd ns nh hr := by
  intro k
  induction k with
  | zero => intro _; exact hW
  | succ k ih =>
    intro hk
    have := ih (by omega)
    rw [sp_fo]
    refine sp_WF.ch ?_ (by omega)
    split
    · refine this.gt k ?_
      rcases sp_hew hW k with e | ⟨i, g, h1, h2, h3, h4, h5⟩
      · exact Or.inl e
      · exact Or.inr ⟨i, h1, h4⟩
    · exact this.wa k
theorem sp_WF.hrs (hW : sp_WF σ nd ns nh hr) {hr' : Nat} (h : hr' < 100000) : sp_WF (upd σ 4 (nI hr')) nd ns nh hr' := by
  obtain ⟨⟨n8, n5, n6, -⟩, ⟨e0, e2, e3, e4⟩, ⟨lo, l1, l2, l3⟩, ⟨m, m1, m2⟩, hD, hS, hH⟩ := hW
  have u : ∀ c, c ≠ 4 → upd σ 4 (nI hr') c = σ c := fun c hc => by unfold upd; rw [if_neg hc]
  have u4 : upd σ 4 (nI hr') 4 = nI hr' := by unfold upd; simp
  refine ⟨⟨n8, n5, n6, h⟩, ⟨by rw [u 0 (by omega), e0], by rw [u 2 (by omega), e2], by rw [u 3 (by omega), e3], u4⟩, ⟨lo, l1, l2, by rw [u 5 (by omega), l3]⟩, ⟨m, m1, by rw [u 1 (by omega), m2]⟩, fun d hd => ?_, fun i hi => ?_, fun i hi => ?_⟩
  · have a0 : sp_dr (upd σ 4 (nI hr')) d 0 = sp_dr σ d 0 := u _ (by omega)
    have a1 : sp_dr (upd σ 4 (nI hr')) d 1 = sp_dr σ d 1 := u _ (by omega)
    rw [a0, a1]; exact hD d hd
  · have a0 : sp_sg (upd σ 4 (nI hr')) i 0 = sp_sg σ i 0 := u _ (by omega)
    have a1 : sp_sg (upd σ 4 (nI hr')) i 1 = sp_sg σ i 1 := u _ (by omega)
    have a2 : sp_sg (upd σ 4 (nI hr')) i 2 = sp_sg σ i 2 := u _ (by omega)
    rw [a0, a1, a2]; exact hS i hi
  · have a : ∀ k, sp_hd (upd σ 4 (nI hr')) i k = sp_hd σ i k := fun k => u _ (by omega)
    rw [a 0, a 1, a 2, a 3, a 4, a 5]; exact hH i hi
theorem sp_WF.ho (hW : sp_WF σ nd ns nh hr) (h : hr + 1 < 100000) : sp_WF (sp_ho σ nd nh) nd ns nh (hr + 1) := by
  have h1 := hW.fo nh (Nat.le_refl _)
  have e : sp_ho σ nd nh = upd (sp_fo σ nd nh nh) 4 (nI (hr + 1)) := by
    unfold sp_ho
    rw [h1.2.1.2.2.2, nI_1]
  rw [e]
  exact h1.hrs h
theorem sp_WF.hn (hW : sp_WF σ nd ns nh hr) : ∀ n, hr + n < 100000 → sp_WF (sp_hn nd nh n σ) nd ns nh (hr + n) := by
  intro n
  induction n with
  | zero => intro _; exact hW
  | succ n ih => intro h; exact (ih (by omega)).ho (by omega)
theorem sp_svh {τ : Nat → Int32} {j i m : Nat} (v : Int32) (hne : i ≠ j) (hm : m < 6) : sp_hd (sp_sv τ j v) i m = sp_hd τ i m := by
  unfold sp_sv
  split
  · rw [sp_gthd _ _ hm, if_neg (fun z => hne z.1), if_neg (fun z => hne z.1)]
  · rw [sp_hdu (by omega) hm, if_neg (fun z => hne z.1)]
theorem sp_svlo {τ : Nat → Int32} (j : Nat) (v : Int32) {c : Nat} (hc : c < 37) : sp_sv τ j v c = τ c := by
  unfold sp_sv
  split
  · exact sp_gtlo j _ hc
  · exact sp_lo hc
theorem sp_wah {τ : Nat → Int32} {j i m : Nat} (hne : i ≠ j) (hm : m < 6) : sp_hd (sp_wa τ j) i m = sp_hd τ i m := by
  unfold sp_wa
  split
  · rfl
  · exact sp_svh _ hne hm
theorem sp_walo {τ : Nat → Int32} (j : Nat) {c : Nat} (hc : c < 37) : sp_wa τ j c = τ c := by
  unfold sp_wa
  split
  · rfl
  · exact sp_svlo j _ hc
theorem sp_chh {τ : Nat → Int32} {j i m : Nat} (hne : i ≠ j) (hm : m < 6) : sp_hd (sp_ch τ j) i m = sp_hd τ i m := by
  unfold sp_ch
  split
  · rw [sp_hdu (by omega) hm, if_neg (fun z => hne z.1)]
  · rfl
theorem sp_chlo {τ : Nat → Int32} (j : Nat) {c : Nat} (hc : c < 37) : sp_ch τ j c = τ c := by
  unfold sp_ch
  split
  · exact sp_lo hc
  · rfl
/-- a head's song and strength stay when he chews -/
theorem sp_ch5 {τ : Nat → Int32} {j i m : Nat} (hm : m < 5) : sp_hd (sp_ch τ j) i m = sp_hd τ i m := by
  unfold sp_ch
  split
  · rw [sp_hdu (by omega) (by omega), if_neg (fun z => by omega)]
  · rfl
theorem sp_folo (σ : Nat → Int32) (nd nh : Nat) {c : Nat} (hc : c < 37) : ∀ k, sp_fo σ nd nh k c = σ c := by
  intro k
  induction k with
  | zero => rfl
  | succ k ih =>
    rw [sp_fo, sp_chlo k hc]
    split
    · rw [sp_gtlo k _ hc, ih]
    · rw [sp_walo k hc, ih]
/-- heads not yet come to are as before -/
theorem sp_foh (σ : Nat → Int32) (nd nh : Nat) : ∀ k i m, k ≤ i → m < 6 → sp_hd (sp_fo σ nd nh k) i m = sp_hd σ i m := by
  intro k
  induction k with
  | zero => intro i m _ _; rfl
  | succ k ih =>
    intro i m hi hm
    have hne : i ≠ k := by omega
    rw [sp_fo, sp_chh hne hm]
    split
    · rw [sp_gthd _ _ hm, if_neg (fun z => hne z.1), if_neg (fun z => hne z.1)]
      exact ih i m (by omega) hm
    · rw [sp_wah hne hm]
      exact ih i m (by omega) hm
end CWF
