/-! bits of an int, by their places (first rows: the kit's family of bt) -/
def bt (x : Int32) (i : Nat) : Bool := x.toBitVec.getLsbD i
theorem b_ext {x y : Int32} (h : ∀ i, i < 32 → bt x i = bt y i) : x = y := Int32.toBitVec_inj.mp (BitVec.eq_of_getLsbD_eq (fun i hi => h i hi))
theorem b_or (x y : Int32) (i : Nat) : bt (x ||| y) i = (bt x i || bt y i) := by unfold bt; rw [Int32.toBitVec_or, BitVec.getLsbD_or]
theorem b_and (x y : Int32) (i : Nat) : bt (x &&& y) i = (bt x i && bt y i) := by unfold bt; rw [Int32.toBitVec_and, BitVec.getLsbD_and]
theorem b_xor (x y : Int32) (i : Nat) : bt (x ^^^ y) i = (bt x i ^^ bt y i) := by unfold bt; rw [Int32.toBitVec_xor, BitVec.getLsbD_xor]
theorem b_big {x : Int32} {i : Nat} (h : 32 ≤ i) : bt x i = false := BitVec.getLsbD_of_ge _ _ h
theorem b_0 (i : Nat) : bt 0 i = false := BitVec.getLsbD_zero
theorem s_l : ∀ n, n < 32 → ((nI n &&& 31).toBitVec.smod 32).toNat = n := by decide +kernel
theorem b_shl (n : Nat) (hn : n < 32) (x : Int32) {i : Nat} (hi : i < 32) : bt (x <<< (nI n &&& 31)) i = (decide (n ≤ i) && bt x (i - n)) := by
  unfold bt
  rw [Int32.toBitVec_shiftLeft]
  show (x.toBitVec <<< ((nI n &&& 31).toBitVec.smod 32).toNat).getLsbD i = _
  rw [s_l n hn, BitVec.getLsbD_shiftLeft]
  rcases Nat.lt_or_ge i n with h | h
  · simp [h, Nat.not_le.mpr h]
  · simp [hi, h, Nat.not_lt.mpr h]
theorem b_sshr (n : Nat) (hn : n < 32) (x : Int32) {i : Nat} (hi : i < 32) : bt (x >>> (nI n &&& 31)) i = if n + i < 32 then bt x (n + i) else bt x 31 := by
  unfold bt
  rw [Int32.toBitVec_shiftRight]
  show (x.toBitVec.sshiftRight ((nI n &&& 31).toBitVec.smod 32).toNat).getLsbD i = _
  rw [s_l n hn, BitVec.getLsbD_sshiftRight, BitVec.msb_eq_getLsbD_last]
  simp [hi]
theorem b_1 (i : Nat) : bt 1 i = decide (i = 0) := by
  rcases Nat.lt_or_ge i 32 with h | h
  · exact (by decide +kernel : ∀ i, i < 32 → bt 1 i = decide (i = 0)) i h
  · rw [b_big h, decide_eq_false (by omega)]
theorem b_test {x : Int32} {d : Nat} (hd : d < 32) : ((x >>> (nI d &&& 31)) &&& 1) = 1 ↔ bt x d = true := by
  have h0 : bt (x >>> (nI d &&& 31)) 0 = bt x d := by rw [b_sshr d hd x (by omega)]; simp [hd]
  constructor
  · intro h
    have h2 := congrArg (fun z => bt z 0) h
    simp only [b_and, b_1, h0] at h2
    simpa using h2
  · intro h
    apply b_ext
    intro i hi
    rw [b_and, b_1]
    by_cases hi0 : i = 0
    · subst hi0; rw [h0, h]; rfl
    · simp [hi0]
theorem b_one (r : Nat) (hr : r < 32) {i : Nat} (hi : i < 32) : bt (1 <<< (nI r &&& 31)) i = decide (i = r) := by
  rw [b_shl r hr 1 hi, b_1]
  by_cases h : i = r
  · subst h; simp
  · by_cases h2 : r ≤ i
    · have : ¬ i - r = 0 := by omega
      simp [h, this]
    · simp [h, h2]
/-! states: what is read behind a write -/
theorem gw_up_r {h : gw_H} {c i : Nat} {x : Int32} (c' j : Nat) : gw_up h c i x c' j = if c' = c ∧ j = i then x else h c' j := by
  unfold gw_up gw_st upd
  by_cases hc : c' = c
  · subst hc; simp
  · simp [hc]
theorem gw_up_ne {h : gw_H} {c i : Nat} {x : Int32} {c' : Nat} (hc : c' ≠ c) : gw_up h c i x c' = h c' := by
  unfold gw_up gw_st; rw [if_neg hc]
theorem gw_up_ee {h : gw_H} {c i : Nat} {x : Int32} : gw_up h c i x c i = x := by rw [gw_up_r]; simp
theorem gw_up_en {h : gw_H} {c i : Nat} {x : Int32} {j : Nat} (hj : j ≠ i) : gw_up h c i x c j = h c j := by rw [gw_up_r]; simp [hj]
theorem bn_t {c A B : Prop} (h : c) (b : B) : (¬ c → A) ∧ (c → B) := ⟨fun q => absurd h q, fun _ => b⟩
theorem bn_f {c A B : Prop} (h : ¬ c) (a : A) : (¬ c → A) ∧ (c → B) := ⟨fun _ => a, fun q => absurd q h⟩
theorem pk_ne {x y : Int32} {A B : Prop} (a b : Nat) (f : a ≠ b → A) (g : a = b → B) (hx : x = nI a := by rfl) (hy : y = nI b := by rfl) (ha : a < 2 ^ 31 := by omega) (hb : b < 2 ^ 31 := by omega) : (¬ x = y → A) ∧ (x = y → B) := by
  subst hx hy
  rw [nI_eq ha hb]
  exact ⟨f, g⟩
/-- ints that are numbers: comparisons -/
theorem ni_lt0 {j : Nat} (h : j < 2 ^ 31) : ¬ nI j < 0 := nI_pos h
theorem ni_lit (n : Nat) : (OfNat.ofNat n : Int32) = nI n := rfl
/-! ## the office told by one row σ of 73 numbers -/
def sp_hd (σ : Nat → Int32) (j k : Nat) : Int32 := σ (37 + 6 * j + k)
def sp_sg (σ : Nat → Int32) (i k : Nat) : Int32 := σ (22 + 3 * i + k)
def sp_dr (σ : Nat → Int32) (d k : Nat) : Int32 := σ (6 + 2 * d + k)
/-- it is as an office must be, with so many doors, songs, heads, hours -/
def sp_WF (σ : Nat → Int32) (nd ns nh hr : Nat) : Prop :=
  (nd ≤ 8 ∧ ns ≤ 5 ∧ nh ≤ 6 ∧ hr < 100000) ∧ (σ 0 = nI nd ∧ σ 2 = nI ns ∧ σ 3 = nI nh ∧ σ 4 = nI hr) ∧ (∃ lo : Nat, 1 ≤ lo ∧ lo ≤ 20 ∧ σ 5 = nI lo) ∧ (∃ m : Nat, m < 2 ^ nd ∧ σ 1 = nI m) ∧
  (∀ d, d < nd → (∃ r : Nat, r < 5 ∧ sp_dr σ d 0 = nI r) ∧ ∃ r : Nat, r < 5 ∧ sp_dr σ d 1 = nI r) ∧
  (∀ i, i < ns → (∃ k : Nat, k < 6 ∧ sp_sg σ i 0 = nI k) ∧ (∃ p : Nat, p < 10 ∧ sp_sg σ i 1 = nI p) ∧ ∃ e : Nat, 1 ≤ e ∧ e < 10 ∧ sp_sg σ i 2 = nI e) ∧
  (∀ j, j < nh → (∃ k : Nat, k < 6 ∧ sp_hd σ j 0 = nI k) ∧ (∃ r : Nat, r < 5 ∧ sp_hd σ j 1 = nI r) ∧ (∃ q : Nat, q < 10 ∧ sp_hd σ j 2 = nI q) ∧ ((sp_hd σ j 3 = -9 ∧ sp_hd σ j 4 = 0) ∨ ∃ i : Nat, i < ns ∧ sp_hd σ j 3 = nI i) ∧ (∃ s : Nat, s ≤ 60 ∧ sp_hd σ j 4 = nI s) ∧ ∃ g : Nat, g ≤ 3 ∧ sp_hd σ j 5 = nI g)
def sp_op (σ : Nat → Int32) (d : Nat) : Bool := bt (σ 1) d
/-- how strong a song is that is heard -/
def sp_fr (σ : Nat → Int32) (i : Nat) : Int32 := if sp_sg σ i 0 = 2 then 2 * sp_sg σ i 1 + sp_sg σ i 2 + 3 else if sp_sg σ i 0 = 4 then 2 * (2 * sp_sg σ i 1 + sp_sg σ i 2 + 3) else 2 * sp_sg σ i 1 + sp_sg σ i 2
/-- by how much it fades -/
def sp_fd (σ : Nat → Int32) (i : Nat) : Int32 := if sp_sg σ i 0 = 1 then 1 else if sp_sg σ i 0 = 2 then 3 else if sp_sg σ i 0 = 3 then (if σ 4 - σ 4 / 6 * 6 = 0 then -4 else 1) else if sp_sg σ i 0 = 4 then 6 else if sp_sg σ i 0 = 5 then (if σ 4 - σ 4 / 2 * 2 = 0 then 1 else 0) else 2
def sp_hu (σ : Nat → Int32) (j : Nat) : Bool := decide (0 ≤ sp_hd σ j 3) && (if sp_hd σ j 0 = 1 then true else if sp_hd σ j 0 = 4 then false else if sp_hd σ j 0 = 5 then decide (σ 4 - σ 4 / 2 * 2 = 0) else decide (σ 5 ≤ sp_hd σ j 4))
def sp_ba (σ : Nat → Int32) (j : Nat) : Int32 := if sp_hd σ j 0 = 2 then 99 else if sp_hd σ j 0 = 3 then sp_hd σ j 2 / 2 else if sp_hd σ j 0 = 4 then sp_hd σ j 2 + 3 else if sp_hd σ j 0 = 5 then 0 else sp_hd σ j 2
/-- a door, of those ahead of place n, that is open between the rooms x and y -/
def sp_dn (σ : Nat → Int32) (x y : Int32) : Nat → Bool
  | 0 => false
  | d + 1 => sp_dn σ x y d || (sp_op σ d && ((decide (sp_dr σ d 0 = x) && decide (sp_dr σ d 1 = y)) || (decide (sp_dr σ d 0 = y) && decide (sp_dr σ d 1 = x))))
def sp_ne (σ : Nat → Int32) (nd a b : Nat) : Bool := decide (a ≠ b) && (decide (sp_hd σ a 1 = sp_hd σ b 1) || sp_dn σ (sp_hd σ a 1) (sp_hd σ b 1) nd)
/-- those near a head, of those ahead of place n, as bits -/
def sp_nb (σ : Nat → Int32) (nd a : Nat) : Nat → Int32
  | 0 => 0
  | o + 1 => if sp_ne σ nd a o then sp_nb σ nd a o ||| (1 <<< (nI o &&& 31)) else sp_nb σ nd a o
/-- which song a head hears best of those ahead of place n, and from whom -/
def sp_ls (σ : Nat → Int32) (nd j : Nat) : Nat → Int32 × Int32
  | 0 => (-9, -9)
  | o + 1 => if sp_hu σ o && (sp_ne σ nd j o && (decide (sp_hd σ o 3 ≠ sp_hd σ j 3) && (decide ((sp_ls σ nd j o).1 < 0) || (decide (sp_sg σ (sp_ls σ nd j o).1.toNatClampNeg 1 < sp_sg σ (sp_hd σ o 3).toNatClampNeg 1) || (decide (sp_sg σ (sp_hd σ o 3).toNatClampNeg 1 = sp_sg σ (sp_ls σ nd j o).1.toNatClampNeg 1) && decide (sp_hd σ o 3 < (sp_ls σ nd j o).1)))))) then (sp_hd σ o 3, nI o) else sp_ls σ nd j o
/-- the song that he gets; -9 none -/
def sp_he (σ : Nat → Int32) (nd nh j : Nat) : Int32 := if 0 ≤ (sp_ls σ nd j nh).1 then (if sp_sg σ (sp_ls σ nd j nh).1.toNatClampNeg 1 ≤ sp_ba σ j ∨ sp_fr σ (sp_ls σ nd j nh).1.toNatClampNeg ≤ sp_hd σ j 4 then -9 else (sp_ls σ nd j nh).1) else -9
/-- a head gets a song (below 0: has none) -/
def sp_gt (τ : Nat → Int32) (j : Nat) (s : Int32) : Nat → Int32 := if s < 0 then upd (upd τ (37 + 6 * j + 3) (-9)) (37 + 6 * j + 4) 0 else upd (upd τ (37 + 6 * j + 3) s) (37 + 6 * j + 4) (sp_fr τ s.toNatClampNeg)
def sp_wv (τ : Nat → Int32) (j : Nat) : Int32 := sp_hd τ j 4 - sp_fd τ (sp_hd τ j 3).toNatClampNeg - (if 0 < sp_hd τ j 5 then 1 else 0)
def sp_sv (τ : Nat → Int32) (j : Nat) (v : Int32) : Nat → Int32 := if v ≤ 0 then sp_gt τ j (-9) else upd τ (37 + 6 * j + 4) v
def sp_wa (τ : Nat → Int32) (j : Nat) : Nat → Int32 := if sp_hd τ j 3 < 0 then τ else sp_sv τ j (if 60 < sp_wv τ j then 60 else sp_wv τ j)
def sp_ch (τ : Nat → Int32) (j : Nat) : Nat → Int32 := if 0 < sp_hd τ j 5 then upd τ (37 + 6 * j + 5) (sp_hd τ j 5 - 1) else τ
def sp_fo (σ : Nat → Int32) (nd nh : Nat) : Nat → (Nat → Int32)
  | 0 => σ
  | j + 1 => sp_ch (if 0 ≤ sp_he σ nd nh j then sp_gt (sp_fo σ nd nh j) j (sp_he σ nd nh j) else sp_wa (sp_fo σ nd nh j) j) j
def sp_ct (σ : Nat → Int32) (nd nh : Nat) : Nat → Int32
  | 0 => 0
  | j + 1 => if 0 ≤ sp_he σ nd nh j then sp_ct σ nd nh j + 1 else sp_ct σ nd nh j
/-- an hour -/
def sp_ho (σ : Nat → Int32) (nd nh : Nat) : Nat → Int32 := upd (sp_fo σ nd nh nh) 4 (sp_fo σ nd nh nh 4 + 1)
def sp_G (σ : Nat → Int32) (nd nh : Nat) (G : Nat → Int32) : Nat → Int32 := fun j => if 0 ≤ sp_he σ nd nh j then (sp_ls σ nd j nh).2 else G j
def sp_O (σ : Nat → Int32) (nd nh : Nat) (O : Nat → Int32) : Nat → Int32 := fun j => if 0 ≤ sp_he σ nd nh j then O (sp_ls σ nd j nh).2.toNatClampNeg else O j
/-- so many hours -/
def sp_hn (nd nh : Nat) : Nat → (Nat → Int32) → (Nat → Int32)
  | 0, σ => σ
  | n + 1, σ => sp_ho (sp_hn nd nh n σ) nd nh
def sp_Gn (nd nh : Nat) : Nat → (Nat → Int32) → (Nat → Int32) → (Nat → Int32)
  | 0, _, G => G
  | n + 1, σ, G => sp_G (sp_hn nd nh n σ) nd nh (sp_Gn nd nh n σ G)
def sp_On (nd nh : Nat) : Nat → (Nat → Int32) → (Nat → Int32) → (Nat → Int32)
  | 0, _, O => O
  | n + 1, σ, O => sp_O (sp_hn nd nh n σ) nd nh (sp_On nd nh n σ O)
/-- how many have it (below 0: any), of those ahead of place n -/
def sp_hv (σ : Nat → Int32) (s : Int32) : Nat → Int32
  | 0 => 0
  | j + 1 => sp_hv σ s j + (if s < 0 then (if 0 ≤ sp_hd σ j 3 then 1 else 0) else if sp_hd σ j 3 = s then 1 else 0)
/-! reads behind writes of the row -/
theorem sp_lo {σ : Nat → Int32} {j k c : Nat} {v : Int32} (hc : c < 37) : upd σ (37 + 6 * j + k) v c = σ c := by
  unfold upd; rw [if_neg (by omega)]
theorem sp_hdu {σ : Nat → Int32} {j k j' k' : Nat} {v : Int32} (hk : k < 6) (hk' : k' < 6) : sp_hd (upd σ (37 + 6 * j + k) v) j' k' = if j' = j ∧ k' = k then v else sp_hd σ j' k' := by
  unfold sp_hd upd
  by_cases h : j' = j ∧ k' = k
  · obtain ⟨rfl, rfl⟩ := h; simp
  · rw [if_neg h, if_neg (by omega)]
theorem sp_sgu {σ : Nat → Int32} {j k i k' : Nat} {v : Int32} (hi : i < 5) (hk : k' < 3) : sp_sg (upd σ (37 + 6 * j + k) v) i k' = sp_sg σ i k' := by
  unfold sp_sg; exact sp_lo (by omega)
theorem sp_dru {σ : Nat → Int32} {j k d k' : Nat} {v : Int32} (hd : d < 8) (hk : k' < 2) : sp_dr (upd σ (37 + 6 * j + k) v) d k' = sp_dr σ d k' := by
  unfold sp_dr; exact sp_lo (by omega)
theorem sp_fru {σ : Nat → Int32} {j k i : Nat} {v : Int32} (hi : i < 5) : sp_fr (upd σ (37 + 6 * j + k) v) i = sp_fr σ i := by
  unfold sp_fr; simp only [sp_sgu hi (show 0 < 3 by omega), sp_sgu hi (show 1 < 3 by omega), sp_sgu hi (show 2 < 3 by omega)]
theorem sp_fdu {σ : Nat → Int32} {j k i : Nat} {v : Int32} (hi : i < 5) : sp_fd (upd σ (37 + 6 * j + k) v) i = sp_fd σ i := by
  unfold sp_fd; simp only [sp_sgu hi (show 0 < 3 by omega), sp_lo (show 4 < 37 by omega)]
