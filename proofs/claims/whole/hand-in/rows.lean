section
section QA
theorem pk_us {f : Nat → Int32} {k : Nat} {x : Int32} : upd f k x k = x := if_pos rfl
theorem pk_un {f : Nat → Int32} {k j : Nat} {x : Int32} (h : j ≠ k) : upd f k x j = f j := if_neg h
theorem pk_sub {a b : Nat} (h : b ≤ a) : nI a - nI b = nI (a - b) := by
  obtain ⟨c, rfl⟩ : ∃ c, a = c + b := ⟨a - b, by omega⟩
  rw [← nI_add, Int32.add_sub_cancel, Nat.add_sub_cancel]
theorem pk_m1 (n : Nat) : nI (n + 1) + (-1) = nI n := by
  rw [← nI_1, Int32.add_assoc, show (1 : Int32) + (-1) = 0 from rfl, Int32.add_zero]
theorem pk_mul (a b : Nat) : nI a * nI b = nI (a * b) := (Int32.ofNat_mul a b).symm
theorem pk_sub_toInt {a b : Nat} (ha : a < 2 ^ 30) (hb : b < 2 ^ 30) : (nI a - nI b).toInt = (a : Int) - b := by
  rw [Int32.toInt_sub, nI_toInt (by omega), nI_toInt (by omega)]
  exact Int.bmod_eq_of_le (by omega) (by omega)
theorem pk_ix (x : Int32) {n : Nat} (hn : n < 2 ^ 31) : x < 0 ∨ nI n ≤ x ∨ ∃ j : Nat, j < n ∧ x = nI j := by
  by_cases h : x < 0
  · exact Or.inl h
  · obtain ⟨j, hj, rfl⟩ := nI_of h
    by_cases h2 : j < n
    · exact Or.inr (Or.inr ⟨j, h2, rfl⟩)
    · exact Or.inr (Or.inl (nI_le (by omega) hj))
theorem pk_le {x y : Int32} {A B : Prop} (a b : Nat) (f : a ≤ b → A) (g : b < a → B) (hx : x = nI a := by rfl) (hy : y = nI b := by rfl) (ha : a < 2 ^ 31 := by omega) (hb : b < 2 ^ 31 := by omega) : (x ≤ y → A) ∧ (¬ x ≤ y → B) := by
  subst hx hy
  rw [nI_leI ha hb]
  exact ⟨f, fun z => g (by omega)⟩
theorem pk_lt {x y : Int32} {A B : Prop} (a b : Nat) (f : a < b → A) (g : b ≤ a → B) (hx : x = nI a := by rfl) (hy : y = nI b := by rfl) (ha : a < 2 ^ 31 := by omega) (hb : b < 2 ^ 31 := by omega) : (x < y → A) ∧ (¬ x < y → B) := by
  subst hx hy
  rw [nI_ltI ha hb]
  exact ⟨f, fun z => g (by omega)⟩
theorem pk_eq {x y : Int32} {A B : Prop} (a b : Nat) (f : a = b → A) (g : a ≠ b → B) (hx : x = nI a := by rfl) (hy : y = nI b := by rfl) (ha : a < 2 ^ 31 := by omega) (hb : b < 2 ^ 31 := by omega) : (x = y → A) ∧ (¬ x = y → B) := by
  subst hx hy
  rw [nI_eq ha hb]
  exact ⟨f, g⟩
theorem pk_in {x : Int32} (n N : Nat) (h : n < N) (hx : x = nI n := by rfl) (hN : N < 2 ^ 31 := by omega) : vp_in x N := by
  subst hx
  exact vp_in_nI h hN
theorem pk_cl {x : Int32} (n : Nat) (hx : x = nI n := by rfl) (h : n < 2 ^ 31 := by omega) : x.toNatClampNeg = n := by
  subst hx
  exact nI_clamp h
/-! numbers against literals -/
theorem qa_lt_1 {a : Nat} (h : a < 2 ^ 31) : nI a < 1 ↔ a < 1 := nI_ltI (b := 1) h (by omega)
theorem qa_gt_1 {a : Nat} (h : a < 2 ^ 31) : 1 < nI a ↔ 1 < a := nI_ltI (a := 1) (by omega) h
theorem qa_le_1 {a : Nat} (h : a < 2 ^ 31) : nI a ≤ 1 ↔ a ≤ 1 := nI_leI (b := 1) h (by omega)
theorem qa_ge_1 {a : Nat} (h : a < 2 ^ 31) : 1 ≤ nI a ↔ 1 ≤ a := nI_leI (a := 1) (by omega) h
theorem qa_eq_1 {a : Nat} (h : a < 2 ^ 31) : nI a = 1 ↔ a = 1 := nI_eq (b := 1) h (by omega)
theorem qa_lt_2 {a : Nat} (h : a < 2 ^ 31) : nI a < 2 ↔ a < 2 := nI_ltI (b := 2) h (by omega)
theorem qa_gt_2 {a : Nat} (h : a < 2 ^ 31) : 2 < nI a ↔ 2 < a := nI_ltI (a := 2) (by omega) h
theorem qa_le_2 {a : Nat} (h : a < 2 ^ 31) : nI a ≤ 2 ↔ a ≤ 2 := nI_leI (b := 2) h (by omega)
theorem qa_ge_2 {a : Nat} (h : a < 2 ^ 31) : 2 ≤ nI a ↔ 2 ≤ a := nI_leI (a := 2) (by omega) h
theorem qa_eq_2 {a : Nat} (h : a < 2 ^ 31) : nI a = 2 ↔ a = 2 := nI_eq (b := 2) h (by omega)
theorem qa_lt_3 {a : Nat} (h : a < 2 ^ 31) : nI a < 3 ↔ a < 3 := nI_ltI (b := 3) h (by omega)
theorem qa_gt_3 {a : Nat} (h : a < 2 ^ 31) : 3 < nI a ↔ 3 < a := nI_ltI (a := 3) (by omega) h
theorem qa_le_3 {a : Nat} (h : a < 2 ^ 31) : nI a ≤ 3 ↔ a ≤ 3 := nI_leI (b := 3) h (by omega)
theorem qa_ge_3 {a : Nat} (h : a < 2 ^ 31) : 3 ≤ nI a ↔ 3 ≤ a := nI_leI (a := 3) (by omega) h
theorem qa_eq_3 {a : Nat} (h : a < 2 ^ 31) : nI a = 3 ↔ a = 3 := nI_eq (b := 3) h (by omega)
theorem qa_lt_4 {a : Nat} (h : a < 2 ^ 31) : nI a < 4 ↔ a < 4 := nI_ltI (b := 4) h (by omega)
theorem qa_gt_4 {a : Nat} (h : a < 2 ^ 31) : 4 < nI a ↔ 4 < a := nI_ltI (a := 4) (by omega) h
theorem qa_le_4 {a : Nat} (h : a < 2 ^ 31) : nI a ≤ 4 ↔ a ≤ 4 := nI_leI (b := 4) h (by omega)
theorem qa_ge_4 {a : Nat} (h : a < 2 ^ 31) : 4 ≤ nI a ↔ 4 ≤ a := nI_leI (a := 4) (by omega) h
theorem qa_eq_4 {a : Nat} (h : a < 2 ^ 31) : nI a = 4 ↔ a = 4 := nI_eq (b := 4) h (by omega)
theorem qa_lt_5 {a : Nat} (h : a < 2 ^ 31) : nI a < 5 ↔ a < 5 := nI_ltI (b := 5) h (by omega)
theorem qa_gt_5 {a : Nat} (h : a < 2 ^ 31) : 5 < nI a ↔ 5 < a := nI_ltI (a := 5) (by omega) h
theorem qa_le_5 {a : Nat} (h : a < 2 ^ 31) : nI a ≤ 5 ↔ a ≤ 5 := nI_leI (b := 5) h (by omega)
theorem qa_ge_5 {a : Nat} (h : a < 2 ^ 31) : 5 ≤ nI a ↔ 5 ≤ a := nI_leI (a := 5) (by omega) h
theorem qa_eq_5 {a : Nat} (h : a < 2 ^ 31) : nI a = 5 ↔ a = 5 := nI_eq (b := 5) h (by omega)
theorem qa_lt_7 {a : Nat} (h : a < 2 ^ 31) : nI a < 7 ↔ a < 7 := nI_ltI (b := 7) h (by omega)
theorem qa_gt_7 {a : Nat} (h : a < 2 ^ 31) : 7 < nI a ↔ 7 < a := nI_ltI (a := 7) (by omega) h
theorem qa_le_7 {a : Nat} (h : a < 2 ^ 31) : nI a ≤ 7 ↔ a ≤ 7 := nI_leI (b := 7) h (by omega)
theorem qa_ge_7 {a : Nat} (h : a < 2 ^ 31) : 7 ≤ nI a ↔ 7 ≤ a := nI_leI (a := 7) (by omega) h
theorem qa_eq_7 {a : Nat} (h : a < 2 ^ 31) : nI a = 7 ↔ a = 7 := nI_eq (b := 7) h (by omega)
theorem qa_lt_8 {a : Nat} (h : a < 2 ^ 31) : nI a < 8 ↔ a < 8 := nI_ltI (b := 8) h (by omega)
theorem qa_gt_8 {a : Nat} (h : a < 2 ^ 31) : 8 < nI a ↔ 8 < a := nI_ltI (a := 8) (by omega) h
theorem qa_le_8 {a : Nat} (h : a < 2 ^ 31) : nI a ≤ 8 ↔ a ≤ 8 := nI_leI (b := 8) h (by omega)
theorem qa_ge_8 {a : Nat} (h : a < 2 ^ 31) : 8 ≤ nI a ↔ 8 ≤ a := nI_leI (a := 8) (by omega) h
theorem qa_eq_8 {a : Nat} (h : a < 2 ^ 31) : nI a = 8 ↔ a = 8 := nI_eq (b := 8) h (by omega)
theorem qa_lt_32 {a : Nat} (h : a < 2 ^ 31) : nI a < 32 ↔ a < 32 := nI_ltI (b := 32) h (by omega)
theorem qa_gt_32 {a : Nat} (h : a < 2 ^ 31) : 32 < nI a ↔ 32 < a := nI_ltI (a := 32) (by omega) h
theorem qa_le_32 {a : Nat} (h : a < 2 ^ 31) : nI a ≤ 32 ↔ a ≤ 32 := nI_leI (b := 32) h (by omega)
theorem qa_ge_32 {a : Nat} (h : a < 2 ^ 31) : 32 ≤ nI a ↔ 32 ≤ a := nI_leI (a := 32) (by omega) h
theorem qa_eq_32 {a : Nat} (h : a < 2 ^ 31) : nI a = 32 ↔ a = 32 := nI_eq (b := 32) h (by omega)
theorem qa_lt_63 {a : Nat} (h : a < 2 ^ 31) : nI a < 63 ↔ a < 63 := nI_ltI (b := 63) h (by omega)
theorem qa_gt_63 {a : Nat} (h : a < 2 ^ 31) : 63 < nI a ↔ 63 < a := nI_ltI (a := 63) (by omega) h
theorem qa_le_63 {a : Nat} (h : a < 2 ^ 31) : nI a ≤ 63 ↔ a ≤ 63 := nI_leI (b := 63) h (by omega)
theorem qa_ge_63 {a : Nat} (h : a < 2 ^ 31) : 63 ≤ nI a ↔ 63 ≤ a := nI_leI (a := 63) (by omega) h
theorem qa_eq_63 {a : Nat} (h : a < 2 ^ 31) : nI a = 63 ↔ a = 63 := nI_eq (b := 63) h (by omega)
theorem qa_lt_64 {a : Nat} (h : a < 2 ^ 31) : nI a < 64 ↔ a < 64 := nI_ltI (b := 64) h (by omega)
theorem qa_gt_64 {a : Nat} (h : a < 2 ^ 31) : 64 < nI a ↔ 64 < a := nI_ltI (a := 64) (by omega) h
theorem qa_le_64 {a : Nat} (h : a < 2 ^ 31) : nI a ≤ 64 ↔ a ≤ 64 := nI_leI (b := 64) h (by omega)
theorem qa_ge_64 {a : Nat} (h : a < 2 ^ 31) : 64 ≤ nI a ↔ 64 ≤ a := nI_leI (a := 64) (by omega) h
theorem qa_eq_64 {a : Nat} (h : a < 2 ^ 31) : nI a = 64 ↔ a = 64 := nI_eq (b := 64) h (by omega)
theorem qa_lt_0 {a : Nat} (h : a < 2 ^ 31) : nI a < 0 ↔ False := ⟨fun z => nI_pos h z, False.elim⟩
theorem qa_ge_0 {a : Nat} (h : a < 2 ^ 31) : 0 ≤ nI a ↔ True := ⟨fun _ => trivial, fun _ => nI_pos' h⟩
theorem qa_gt_0 {a : Nat} (h : a < 2 ^ 31) : 0 < nI a ↔ 0 < a := nI_ltI (a := 0) (by omega) h
theorem qa_le_0 {a : Nat} (h : a < 2 ^ 31) : nI a ≤ 0 ↔ a = 0 := by
  have := nI_leI (a := a) (b := 0) h (by omega)
  rw [nI_0] at this
  rw [this]; omega
theorem qa_eq_0 {a : Nat} (h : a < 2 ^ 31) : nI a = 0 ↔ a = 0 := nI_eq (b := 0) h (by omega)
theorem qa_m_4 (a : Nat) : nI a * 4 = nI (a * 4) := pk_mul a 4
theorem qa_m_5 (a : Nat) : nI a * 5 = nI (a * 5) := pk_mul a 5
theorem qa_m_16 (a : Nat) : nI a * 16 = nI (a * 16) := pk_mul a 16
theorem qa_m_32 (a : Nat) : nI a * 32 = nI (a * 32) := pk_mul a 32
theorem qa_p_4 (a : Nat) : nI a + 4 = nI (a + 4) := nI_add a 4
theorem qa_p_5 (a : Nat) : nI a + 5 = nI (a + 5) := nI_add a 5
theorem qa_s1 {n : Nat} (h : 0 < n) : nI n - 1 = nI (n - 1) := pk_sub (b := 1) h
theorem qa_m1 {n : Nat} (h : 0 < n) : nI n + (-1) = nI (n - 1) := by
  obtain ⟨m, rfl⟩ : ∃ m, n = m + 1 := ⟨n - 1, by omega⟩
  exact pk_m1 m
/-! bounded arrays, stores, shifts -/
def qa_B (a : Nat → Int32) (n : Nat) : Prop := ∀ i, ∃ w, w ≤ n ∧ a i = nI w
theorem qa_B0 {n : Nat} : qa_B (fun _ => 0) n := fun _ => ⟨0, Nat.zero_le _, rfl⟩
theorem qa_Bu {a : Nat → Int32} {n k w : Nat} (h : qa_B a n) (hw : w ≤ n) : qa_B (upd a k (nI w)) n := by
  intro i
  by_cases e : i = k
  · exact ⟨w, hw, if_pos e⟩
  · obtain ⟨v, hv, e2⟩ := h i
    exact ⟨v, hv, (if_neg e).trans e2⟩
theorem qa_Bx {a : Nat → Int32} {n k : Nat} {x : Int32} (h : qa_B a n) (hx : ∃ w, w ≤ n ∧ x = nI w) : qa_B (upd a k x) n := by
  obtain ⟨w, hw, rfl⟩ := hx
  exact qa_Bu h hw
theorem qa_id {a : Nat → Int32} {k : Nat} {x : Int32} (h : x = a k) : upd a k x = a := by
  funext j
  by_cases e : j = k
  · rw [e]; exact (if_pos rfl).trans h
  · exact if_neg e
def qa_sh (a : Nat → Int32) (lo hi d : Nat) : Nat → Int32 := fun j => if lo ≤ j ∧ j < hi then a (j + d) else a j
theorem qa_sh0 {a : Nat → Int32} {lo hi d : Nat} (h : hi ≤ lo) : qa_sh a lo hi d = a := by
  funext j
  exact if_neg (by omega)
theorem qa_shv {a : Nat → Int32} {lo hi d j : Nat} (h : hi ≤ j) : qa_sh a lo hi d j = a j := if_neg (by omega)
theorem qa_shi {a : Nat → Int32} {lo hi d j : Nat} (h : lo ≤ j) (h2 : j < hi) : qa_sh a lo hi d j = a (j + d) := if_pos ⟨h, h2⟩
theorem qa_shl {a : Nat → Int32} {lo hi d j : Nat} (h : j < lo) : qa_sh a lo hi d j = a j := if_neg (by omega)
theorem qa_shs {a : Nat → Int32} {lo i d : Nat} (h : lo ≤ i) : upd (qa_sh a lo i d) i (a (i + d)) = qa_sh a lo (i + 1) d := by
  funext j
  by_cases e : j = i
  · subst e
    rw [qa_shi h (by omega)]; exact if_pos rfl
  · by_cases l : lo ≤ j ∧ j < i
    · rw [qa_shi l.1 (by omega)]
      exact (if_neg e).trans (if_pos l)
    · refine (if_neg e).trans ((if_neg l).trans (Eq.symm (if_neg ?_)))
      omega
theorem qa_Bsh {a : Nat → Int32} {lo hi d n : Nat} (h : qa_B a n) : qa_B (qa_sh a lo hi d) n := by
  intro i
  by_cases l : lo ≤ i ∧ i < hi
  · obtain ⟨w, hw, e⟩ := h (i + d)
    exact ⟨w, hw, (if_pos l).trans e⟩
  · obtain ⟨w, hw, e⟩ := h i
    exact ⟨w, hw, (if_neg l).trans e⟩
/-! the greater of two -/
def qa_mx (a b : Int32) : Int32 := if a < b then b else a
theorem qa_mx1 {a b : Int32} (h : a < b) : qa_mx a b = b := if_pos h
theorem qa_mx2 {a b : Int32} (h : ¬ a < b) : qa_mx a b = a := if_neg h
theorem qa_mx3 {a b : Int32} (h : a ≤ b) : qa_mx a b = b := by
  by_cases z : a < b
  · exact if_pos z
  · exact (if_neg z).trans (Int32.le_antisymm h (Int32.not_lt.mp z))
theorem qa_mx4 {a b : Int32} (h : ¬ a ≤ b) : qa_mx a b = a := if_neg (fun z => h (Int32.le_of_lt z))
def qa_mn (a b : Int32) : Int32 := if a < b then a else b
theorem qa_mn1 {a b : Int32} (h : a < b) : qa_mn a b = a := if_pos h
theorem qa_mn2 {a b : Int32} (h : ¬ a < b) : qa_mn a b = b := if_neg h
theorem qa_mn3 {a b : Int32} (h : b ≤ a) : qa_mn a b = b := if_neg (fun z => Int32.not_lt.mpr h z)
theorem qa_mn4 {a b : Int32} (h : ¬ b ≤ a) : qa_mn a b = a := if_pos (Int32.not_le.mp h)
def qa_sm (a : Nat → Int32) : Int32 := 0 + a 0 + a 1 + a 2 + a 3
theorem qa_vb0 : vp_nar .boolean 0 = 0 := by decide
theorem qa_vb1 : vp_nar .boolean 1 = 1 := by decide
theorem qa_nb {x : Int32} (h : x = 0 ∨ x = 1) : narrow .boolean (.int x) = .int x := by
  rcases h with rfl | rfl <;> rfl
theorem qa_B1 {a : Nat → Int32} (h : qa_B a 1) (i : Nat) : a i = 0 ∨ a i = 1 := by
  obtain ⟨w, hw, e⟩ := h i
  rcases Nat.lt_or_ge w 1 with z | z
  · obtain rfl : w = 0 := by omega
    exact Or.inl e
  · obtain rfl : w = 1 := by omega
    exact Or.inr e
/-! credits raised up to n; cells copied -/
def qa_up (f g : Nat → Int32) (n : Nat) : Nat → Int32 := fun j => if j < n then qa_mx (f j) (g j) else f j
theorem qa_up0 {f g : Nat → Int32} : qa_up f g 0 = f := by
  funext j
  exact if_neg (by omega)
theorem qa_upn {f g : Nat → Int32} {n j : Nat} (h : n ≤ j) : qa_up f g n j = f j := if_neg (by omega)
theorem qa_upv {f g : Nat → Int32} {n j : Nat} (h : j < n) : qa_up f g n j = qa_mx (f j) (g j) := if_pos h
theorem qa_ups {f g : Nat → Int32} {n : Nat} : upd (qa_up f g n) n (qa_mx (f n) (g n)) = qa_up f g (n + 1) := by
  funext j
  by_cases e : j = n
  · subst e
    rw [qa_upv (by omega)]; exact if_pos rfl
  · by_cases l : j < n
    · rw [qa_upv (n := n + 1) (by omega)]
      exact (if_neg e).trans (if_pos l)
    · rw [qa_upn (n := n + 1) (by omega)]
      exact (if_neg e).trans (if_neg l)
theorem qa_upk {f g : Nat → Int32} {n : Nat} (h : qa_mx (f n) (g n) = f n) : qa_up f g (n + 1) = qa_up f g n := by
  rw [← qa_ups, h]
  exact qa_id (qa_upn (Nat.le_refl n)).symm
def qa_cp (d s : Nat → Int32) (at0 n : Nat) : Nat → Int32 := fun j => if at0 ≤ j ∧ j < at0 + n then s (j - at0) else d j
theorem qa_cp0 {d s : Nat → Int32} {p : Nat} : qa_cp d s p 0 = d := by
  funext j
  exact if_neg (by omega)
theorem qa_cpi {d s : Nat → Int32} {p n j : Nat} (h : j < n) : qa_cp d s p n (p + j) = s j := by
  refine (if_pos (by omega)).trans ?_
  rw [Nat.add_sub_cancel_left]
theorem qa_cpo {d s : Nat → Int32} {p n j : Nat} (h : j < p) : qa_cp d s p n j = d j := if_neg (by omega)
theorem qa_cps {d s : Nat → Int32} {p n : Nat} : upd (qa_cp d s p n) (p + n) (s n) = qa_cp d s p (n + 1) := by
  funext j
  by_cases e : j = p + n
  · subst e
    rw [qa_cpi (by omega)]; exact if_pos rfl
  · by_cases l : p ≤ j ∧ j < p + n
    · exact (if_neg e).trans ((if_pos l).trans (Eq.symm (if_pos (by omega))))
    · exact (if_neg e).trans ((if_neg l).trans (Eq.symm (if_neg (by omega))))
theorem qa_Bcp {d s : Nat → Int32} {p n b : Nat} (hd : qa_B d b) (hs : qa_B s b) : qa_B (qa_cp d s p n) b := by
  intro i
  by_cases l : p ≤ i ∧ i < p + n
  · obtain ⟨w, hw, e⟩ := hs (i - p)
    exact ⟨w, hw, (if_pos l).trans e⟩
  · obtain ⟨w, hw, e⟩ := hd i
    exact ⟨w, hw, (if_neg l).trans e⟩
theorem qa_10 : ¬ (1 : Int32) = 0 := by decide
theorem qa_ix (x : Int32) {n : Nat} (hn : n < 2 ^ 31) : (x < 0 ∧ (∀ m, m < 2 ^ 31 → ¬ x = nI m)) ∨ (¬ x < 0 ∧ nI n ≤ x ∧ ¬ x < nI n ∧ ∀ m, m < n → nI m < x ∧ ¬ x ≤ nI m ∧ ¬ x = nI m) ∨ ∃ j : Nat, j < n ∧ x = nI j := by
  by_cases h : x < 0
  · exact Or.inl ⟨h, fun m hm e => nI_pos hm (e ▸ h)⟩
  · obtain ⟨j, hj, rfl⟩ := nI_of h
    by_cases h2 : j < n
    · exact Or.inr (Or.inr ⟨j, h2, rfl⟩)
    · refine Or.inr (Or.inl ⟨h, nI_le (by omega) hj, nI_nlt (by omega) hj, fun m hm => ⟨nI_lt (by omega) hj, nI_ge (by omega) hj, fun e => ?_⟩⟩)
      have := (nI_eq (a := j) (b := m) hj (by omega)).mp e
      omega
end QA
end
section
section QR
/-! what the relation holds beside equality -/
def qr_F (fo fl : Nat → Int32) : Prop := ∀ j, ∃ o l, fo j = nI o ∧ fl j = nI l ∧ o + l ≤ 32
def qr_C (kx ky : Nat → Int32) (kc : Int32) : Prop := (∀ k, k < 4 → kx k = ky k) ∧ kx 4 = kc
def qr_K (A : Nat) (xc ya yc : Nat → Int32) : Prop := ∀ i, i < A → (∀ k, k < 4 → xc (i * 5 + k) = ya (i * 4 + k)) ∧ xc (i * 5 + 4) = yc i
def qr_R (A : Nat) (an xl xh yl yh : Nat → Int32) : Prop := ∀ i, i < A → ∀ R, an i = nI R → R ≤ 4 → ∀ r, r < R → xl (i * 4 + r) = yl (i * 4 + r) ∧ xh (i * 4 + r) = yh (i * 4 + r)
theorem qr_F0 : qr_F (fun _ => 0) (fun _ => 0) := fun _ => ⟨0, 0, rfl, rfl, by omega⟩
theorem qr_Fu {fo fl : Nat → Int32} {k o l : Nat} (h : qr_F fo fl) (hw : o + l ≤ 32) : qr_F (upd fo k (nI o)) (upd fl k (nI l)) := by
  intro i
  by_cases e : i = k
  · exact ⟨o, l, if_pos e, if_pos e, hw⟩
  · obtain ⟨o', l', h1, h2, h3⟩ := h i
    exact ⟨o', l', (if_neg e).trans h1, (if_neg e).trans h2, h3⟩
theorem qr_K0 {xc ya yc : Nat → Int32} : qr_K 0 xc ya yc := fun _ h => absurd h (by omega)
theorem qr_R0 {an xl xh yl yh : Nat → Int32} : qr_R 0 an xl xh yl yh := fun _ h => absurd h (by omega)
theorem qr_Ksh {A s : Nat} {xc ya yc : Nat → Int32} (h : qr_K A xc ya yc) (hs : s < A) : qr_K (A - 1) (qa_sh xc (s * 5) ((A - 1) * 5) 5) (qa_sh ya (s * 4) ((A - 1) * 4) 4) (qa_sh yc s (A - 1) 1) := by
  intro i hi
  by_cases z : s ≤ i
  · obtain ⟨h1, h2⟩ := h (i + 1) (by omega)
    refine ⟨fun k hk => ?_, ?_⟩
    · rw [qa_shi (by omega) (by omega), qa_shi (by omega) (by omega)]
      have := h1 k hk
      rw [show (i + 1) * 5 + k = i * 5 + k + 5 by omega, show (i + 1) * 4 + k = i * 4 + k + 4 by omega] at this
      exact this
    · rw [qa_shi (by omega) (by omega), qa_shi (by omega) (by omega)]
      rw [show (i + 1) * 5 + 4 = i * 5 + 4 + 5 by omega] at h2
      exact h2
  · obtain ⟨h1, h2⟩ := h i (by omega)
    refine ⟨fun k hk => ?_, ?_⟩
    · rw [qa_shl (by omega), qa_shl (by omega)]
      exact h1 k hk
    · rw [qa_shl (by omega), qa_shl (by omega)]
      exact h2
theorem qr_Rsh {A s : Nat} {an xl xh yl yh : Nat → Int32} (h : qr_R A an xl xh yl yh) (hs : s < A) : qr_R (A - 1) (qa_sh an s (A - 1) 1) (qa_sh xl (s * 4) ((A - 1) * 4) 4) (qa_sh xh (s * 4) ((A - 1) * 4) 4) (qa_sh yl (s * 4) ((A - 1) * 4) 4) (qa_sh yh (s * 4) ((A - 1) * 4) 4) := by
  intro i hi R eR hR r hr
  by_cases z : s ≤ i
  · rw [qa_shi z hi] at eR
    have := h (i + 1) (by omega) R eR hR r hr
    rw [show (i + 1) * 4 + r = i * 4 + r + 4 by omega] at this
    rw [qa_shi (by omega) (by omega), qa_shi (by omega) (by omega), qa_shi (by omega) (by omega), qa_shi (by omega) (by omega)]
    exact this
  · rw [qa_shl (by omega)] at eR
    rw [qa_shl (by omega), qa_shl (by omega), qa_shl (by omega), qa_shl (by omega)]
    exact h i (by omega) R eR hR r hr
theorem qr_Kcp {A : Nat} {xc ya yc ax ay : Nat → Int32} {ac : Int32} (h : qr_K A xc ya yc) (hc : qr_C ax ay ac) : qr_K (A + 1) (qa_cp xc ax (A * 5) 5) (qa_cp ya ay (A * 4) 4) (upd yc A ac) := by
  intro i hi
  by_cases z : i = A
  · subst z
    refine ⟨fun k hk => ?_, ?_⟩
    · rw [qa_cpi (by omega), qa_cpi hk]
      exact hc.1 k hk
    · rw [qa_cpi (by omega), pk_us]
      exact hc.2
  · obtain ⟨h1, h2⟩ := h i (by omega)
    refine ⟨fun k hk => ?_, ?_⟩
    · rw [qa_cpo (by omega), qa_cpo (by omega)]
      exact h1 k hk
    · rw [qa_cpo (by omega), pk_un z]
      exact h2
theorem qr_Rcp {A C : Nat} {an xl xh yl yh bl bh : Nat → Int32} (h : qr_R A an xl xh yl yh) (hC : C ≤ 4) : qr_R (A + 1) (upd an A (nI C)) (qa_cp xl bl (A * 4) C) (qa_cp xh bh (A * 4) C) (qa_cp yl bl (A * 4) 4) (qa_cp yh bh (A * 4) 4) := by
  intro i hi R eR hR r hr
  by_cases z : i = A
  · subst z
    rw [pk_us] at eR
    have : C = R := (nI_eq (by omega) (by omega)).mp eR
    rw [qa_cpi (by omega), qa_cpi (by omega), qa_cpi (by omega), qa_cpi (by omega)]
    exact ⟨rfl, rfl⟩
  · rw [pk_un z] at eR
    rw [qa_cpo (by omega), qa_cpo (by omega), qa_cpo (by omega), qa_cpo (by omega)]
    exact h i (by omega) R eR hR r hr
theorem qr_Cack {A s : Nat} {kx ky xc ya yc : Nat → Int32} {kc : Int32} (h : qr_C kx ky kc) (hk : qr_K A xc ya yc) (hs : s < A) : qr_C (qa_up kx (fun j => xc (s * 5 + j)) 5) (qa_up ky (fun j => ya (s * 4 + j)) 4) (qa_mx kc (yc s)) := by
  obtain ⟨h1, h2⟩ := hk s hs
  refine ⟨fun k l => ?_, ?_⟩
  · rw [qa_upv (by omega), qa_upv l, h.1 k l]
    rw [h1 k l]
  · rw [qa_upv (by omega), h.2]
    rw [h2]
theorem qr_Cup {ax ay g : Nat → Int32} {ac z : Int32} (h : qr_C ax ay ac) : qr_C (upd (qa_up ax g 4) 4 (qa_mx (ax 4) z)) (qa_up ay g 4) (qa_mx ac z) := by
  refine ⟨fun k l => ?_, ?_⟩
  · rw [pk_un (by omega), qa_upv l, qa_upv l, h.1 k l]
  · rw [pk_us, h.2]
/-- beside equality -/
def qr_I (M N C D A : Nat) (lg kc ac : Int32) (wr kx fo fl cf co rh ax go bl bh dp an xl xh xc ky ay yl yh ya yc : Nat → Int32) : Prop :=
  (1 ≤ M ∧ M ≤ 8 ∧ N ≤ 64 ∧ C ≤ 4 ∧ D ≤ 8 ∧ A ≤ 8) ∧ (lg = -1 ∨ ∃ L, L ≤ 63 ∧ lg = nI L) ∧ qa_B wr 32 ∧ qa_B co 32 ∧ qa_B rh 32 ∧ qa_B cf 1 ∧ qa_B go 1 ∧ qr_F fo fl ∧ qa_B dp 63 ∧ qa_B bl 63 ∧ qa_B bh 63 ∧ qa_B an 4 ∧ qa_B xl 63 ∧ qa_B xh 63 ∧ qr_C kx ky kc ∧ qr_C ax ay ac ∧ qr_K A xc ya yc ∧ qr_R A an xl xh yl yh
/-- the relation: what both sides keep is one function; the five credits in a row are four and one; ranges are alike below their count -/
def i_Rel (_ : Nat) (u : SX) (v : SY) : Prop := ∃ (M N C D A : Nat) (sw cw ld lg nw ls sp vi kc ac : Int32) (wr hg sb mk kx st ss fo fl cb cf co rh ax go bl bh dp an xl xh xc ky ay yl yh ya yc : Nat → Int32), u = (sw, cw, nI M, ld, nI N, lg, nw, ls, sp, nI C, vi, nI D, nI A, wr, hg, sb, mk, kx, st, ss, fo, fl, cb, cf, co, rh, ax, go, bl, bh, dp, an, xl, xh, xc) ∧ v = (sw, cw, nI M, ld, kc, nI N, lg, nw, ls, sp, ac, vi, nI C, nI D, nI A, sb, mk, wr, hg, ky, st, ss, fo, fl, cb, cf, co, rh, ay, go, bl, bh, dp, an, yl, yh, ya, yc) ∧ qr_I M N C D A lg kc ac wr kx fo fl cf co rh ax go bl bh dp an xl xh xc ky ay yl yh ya yc
theorem i_up {k : Nat} {u : SX} {v : SY} (h : i_Rel k u v) : i_Rel (k + 3) u v := h
theorem qr_mk {k : Nat} {M N C D A : Nat} {sw cw ld lg nw ls sp vi kc ac : Int32} {wr hg sb mk kx st ss fo fl cb cf co rh ax go bl bh dp an xl xh xc ky ay yl yh ya yc : Nat → Int32} (h : qr_I M N C D A lg kc ac wr kx fo fl cf co rh ax go bl bh dp an xl xh xc ky ay yl yh ya yc) : i_Rel k (sw, cw, nI M, ld, nI N, lg, nw, ls, sp, nI C, vi, nI D, nI A, wr, hg, sb, mk, kx, st, ss, fo, fl, cb, cf, co, rh, ax, go, bl, bh, dp, an, xl, xh, xc) (sw, cw, nI M, ld, kc, nI N, lg, nw, ls, sp, ac, vi, nI C, nI D, nI A, sb, mk, wr, hg, ky, st, ss, fo, fl, cb, cf, co, rh, ay, go, bl, bh, dp, an, yl, yh, ya, yc) := ⟨M, N, C, D, A, sw, cw, ld, lg, nw, ls, sp, vi, kc, ac, wr, hg, sb, mk, kx, st, ss, fo, fl, cb, cf, co, rh, ax, go, bl, bh, dp, an, xl, xh, xc, ky, ay, yl, yh, ya, yc, rfl, rfl, h⟩
end QR
end
section
section QL
variable {sw cw mp ld nx lg nw ls sp bc vi dc ak kc ac : Int32} {wr hg sb mk kx st ss fo fl cb cf co rh ax go bl bh dp an xl xh xc ky ay yl yh ya yc : Nat → Int32}
theorem ql_ix32 {s j : Nat} (hs : s < 4) (hj : j < 32) : vp_in (nI s * 32 + nI j) 128 := pk_in (s * 32 + j) 128 (by omega) (by rw [qa_m_32, nI_add])
theorem ql_ix4 {p s : Nat} (hs : s < 4) (hj : p < 64) : vp_in (nI p * 4 + nI s) 256 := pk_in (p * 4 + s) 256 (by omega) (by rw [qa_m_4, nI_add])
theorem ql_cm {s w : Nat} (hs : s < 4) (hw : w ≤ 32) (ew : wr (nI s).toNatClampNeg = nI w) (m : Int32) : ∀ (d j : Nat) (c : Int32), j + d = w → ∃ r, (∀ post : Int32 → Prop, post r → wX_countMarks_5 post (nI s) m sw cw mp ld nx lg nw ls sp bc vi dc ak wr hg sb mk kx st ss fo fl cb cf co rh ax go bl bh dp an xl xh xc (d + 1) c (nI j)) ∧ (∀ post : Int32 → Prop, post r → wY_countMarks_5 post (nI s) m sw cw mp ld kc nx lg nw ls sp ac vi bc dc ak sb mk wr hg ky st ss fo fl cb cf co rh ay go bl bh dp an yl yh ya yc (d + 1) c (nI j)) := by
  intro d
  have h4 : vp_in (nI s) 4 := vp_in_nI hs (by omega)
  induction d with
  | zero =>
    intro j c hj
    have h : wr (nI s).toNatClampNeg ≤ nI j := by rw [ew]; exact nI_le (by omega) (by omega)
    exact ⟨c, fun _ hp => ⟨h4, br_t h hp⟩, fun _ hp => ⟨h4, br_t h hp⟩⟩
  | succ d ih =>
    intro j c hj
    have h : ¬ wr (nI s).toNatClampNeg ≤ nI j := by rw [ew]; exact nI_ge (by omega) (by omega)
    have hi : vp_in (nI s * 32 + nI j) 128 := ql_ix32 hs (by omega)
    by_cases z : mk (nI s * 32 + nI j).toNatClampNeg = m
    · obtain ⟨r, hX, hY⟩ := ih (j + 1) (c + 1) (by omega)
      exact ⟨r, fun post hp => ⟨h4, br_f h ⟨hi, br_t z (nm_e (nm_r (nI_1 j) (hX post hp)))⟩⟩, fun post hp => ⟨h4, br_f h ⟨hi, br_t z (nm_e (nm_r (nI_1 j) (hY post hp)))⟩⟩⟩
    · obtain ⟨r, hX, hY⟩ := ih (j + 1) c (by omega)
      exact ⟨r, fun post hp => ⟨h4, br_f h ⟨hi, br_f z (nm_r (nI_1 j) (hX post hp))⟩⟩, fun post hp => ⟨h4, br_f h ⟨hi, br_f z (nm_r (nI_1 j) (hY post hp))⟩⟩⟩
theorem ql_cf {s : Nat} (hs : s < 4) : ∀ (d j : Nat) (c : Int32), j + d = 32 → ∃ r, (∀ post : Int32 → Prop, post r → wX_countFlags_4 post (nI s) sw cw mp ld nx lg nw ls sp bc vi dc ak wr hg sb mk kx st ss fo fl cb cf co rh ax go bl bh dp an xl xh xc (d + 1) c (nI j)) ∧ (∀ post : Int32 → Prop, post r → wY_streamInfo_93 post (nI s) sw cw mp ld kc nx lg nw ls sp ac vi bc dc ak sb mk wr hg ky st ss fo fl cb cf co rh ay go bl bh dp an yl yh ya yc (d + 1) c (nI j)) := by
  intro d
  induction d with
  | zero =>
    intro j c hj
    have h : 32 ≤ nI j := (qa_ge_32 (by omega)).mpr (by omega)
    exact ⟨c, fun _ hp => br_t h hp, fun _ hp => br_t h hp⟩
  | succ d ih =>
    intro j c hj
    have h : ¬ 32 ≤ nI j := fun z => absurd ((qa_ge_32 (by omega)).mp z) (by omega)
    have hi : vp_in (nI s * 32 + nI j) 128 := ql_ix32 hs (by omega)
    by_cases z : cf (nI s * 32 + nI j).toNatClampNeg = 0
    · obtain ⟨r, hX, hY⟩ := ih (j + 1) c (by omega)
      exact ⟨r, fun post hp => br_f h ⟨hi, br_t z (nm_r (nI_1 j) (hX post hp))⟩, fun post hp => br_f h ⟨hi, br_t z (nm_r (nI_1 j) (hY post hp))⟩⟩
    · obtain ⟨r, hX, hY⟩ := ih (j + 1) (c + 1) (by omega)
      exact ⟨r, fun post hp => br_f h ⟨hi, br_f z (nm_e (nm_r (nI_1 j) (hX post hp)))⟩, fun post hp => br_f h ⟨hi, br_f z (nm_e (nm_r (nI_1 j) (hY post hp)))⟩⟩
theorem ql_cmM {s : Nat} (hs : s < 4) (hwr : qa_B wr 32) (m : Int32) : ∃ r, (∀ post : Int32 → Prop, post r → wpX_countMarks post (sw, cw, mp, ld, nx, lg, nw, ls, sp, bc, vi, dc, ak, wr, hg, sb, mk, kx, st, ss, fo, fl, cb, cf, co, rh, ax, go, bl, bh, dp, an, xl, xh, xc) (nI s) m) ∧ (∀ post : Int32 → Prop, post r → wpY_countMarks post (sw, cw, mp, ld, kc, nx, lg, nw, ls, sp, ac, vi, bc, dc, ak, sb, mk, wr, hg, ky, st, ss, fo, fl, cb, cf, co, rh, ay, go, bl, bh, dp, an, yl, yh, ya, yc) (nI s) m) := by
  obtain ⟨w, hw, ew⟩ := hwr (nI s).toNatClampNeg
  obtain ⟨r, hX, hY⟩ := ql_cm hs hw ew m w 0 0 (by omega)
  exact ⟨r, fun post hp => ⟨w + 1, hX post hp⟩, fun post hp => ⟨w + 1, hY post hp⟩⟩
theorem ql_cfM {s : Nat} (hs : s < 4) : ∃ r, (∀ post : Int32 → Prop, post r → wpX_countFlags post (sw, cw, mp, ld, nx, lg, nw, ls, sp, bc, vi, dc, ak, wr, hg, sb, mk, kx, st, ss, fo, fl, cb, cf, co, rh, ax, go, bl, bh, dp, an, xl, xh, xc) (nI s)) ∧ (∀ post : Int32 → Prop, post r → ∃ n, wY_streamInfo_93 post (nI s) sw cw mp ld kc nx lg nw ls sp ac vi bc dc ak sb mk wr hg ky st ss fo fl cb cf co rh ay go bl bh dp an yl yh ya yc n 0 0) := by
  obtain ⟨r, hX, hY⟩ := ql_cf hs 32 0 0 (by omega)
  exact ⟨r, fun post hp => ⟨33, hX post hp⟩, fun post hp => ⟨33, hY post hp⟩⟩

theorem i_vc_packetState {k : Nat} {u : SX} {v : SY} (I : i_Rel k u v) (hk : k + 3 ≤ 1540) (v1 : Int32) : wpX_packetState (fun r => wpY_packetState (fun r' => r' = r ∧ i_Rel (k + 3) u v) v v1) u v1 := by
  obtain ⟨M, N, C, D, A, sw, cw, ld, lg, nw, ls, sp, vi, kc, ac, wr, hg, sb, mk, kx, st, ss, fo, fl, cb, cf, co, rh, ax, go, bl, bh, dp, an, xl, xh, xc, ky, ay, yl, yh, ya, yc, rfl, rfl, hI⟩ := I
  obtain ⟨⟨hM1, hM8, hN, hC, hD, hA⟩, hlg, hwr, hco, hrh, hcf, hgo, hF, hdp, hbl, hbh, han, hxl, hxh, hkx, hax, hK, hR⟩ := id hI
  rcases qa_ix v1 (n := N) (by omega) with ⟨h0, hm⟩ | ⟨h0, h1, h2, hm⟩ | ⟨j, hj, rfl⟩
  · exact br_t h0 (br_t rfl (br_t h0 ⟨rfl, qr_mk hI⟩))
  · exact br_f h0 (br_t h1 (br_t rfl (br_f h0 (br_f h2 ⟨rfl, qr_mk hI⟩))))
  · have h0 := nI_pos (n := j) (by omega)
    have hi : vp_in (nI j) 64 := vp_in_nI (by omega) (by omega)
    exact br_f h0 (br_f (nI_ge hj (by omega)) (br_f qa_10 ⟨hi, br_f h0 (br_t (nI_lt hj (by omega)) ⟨hi, ⟨rfl, qr_mk hI⟩⟩)⟩))
theorem i_vc_received {k : Nat} {u : SX} {v : SY} (I : i_Rel k u v) (hk : k + 3 ≤ 1540) (v1 : Int32) : wpX_received (fun r => wpY_received (fun r' => r' = r ∧ i_Rel (k + 3) u v) v v1) u v1 := by
  obtain ⟨M, N, C, D, A, sw, cw, ld, lg, nw, ls, sp, vi, kc, ac, wr, hg, sb, mk, kx, st, ss, fo, fl, cb, cf, co, rh, ax, go, bl, bh, dp, an, xl, xh, xc, ky, ay, yl, yh, ya, yc, rfl, rfl, hI⟩ := I
  obtain ⟨⟨hM1, hM8, hN, hC, hD, hA⟩, hlg, hwr, hco, hrh, hcf, hgo, hF, hdp, hbl, hbh, han, hxl, hxh, hkx, hax, hK, hR⟩ := id hI
  rcases qa_ix v1 (n := 64) (by omega) with ⟨h0, hm⟩ | ⟨h0, h1, h2, hm⟩ | ⟨j, hj, rfl⟩
  · exact br_t h0 (br_t h0 ⟨rfl, qr_mk hI⟩)
  · exact br_f h0 (br_t h1 (br_f h0 (br_f (hm 63 (by omega)).2.1 ⟨rfl, qr_mk hI⟩)))
  · have h0 := nI_pos (n := j) (by omega)
    have hi : vp_in (nI j) 64 := vp_in_nI (by omega) (by omega)
    have h63 : nI j ≤ 63 := (qa_le_63 (by omega)).mpr (by omega)
    have hl : ¬ 64 ≤ nI j := nI_ge (b := 64) hj (by omega)
    have hg := qa_B1 hgo (nI j).toNatClampNeg
    have hn := qa_nb hg
    rcases hg with e | e
    · exact br_f h0 (br_f hl ⟨hi, br_t e (br_f h0 (br_t h63 ⟨hi, hn, e, qr_mk hI⟩))⟩)
    · exact br_f h0 (br_f hl ⟨hi, br_f (by rw [e]; exact qa_10) (br_f h0 (br_t h63 ⟨hi, hn, e, qr_mk hI⟩))⟩)
theorem i_vc_frame {k : Nat} {u : SX} {v : SY} (I : i_Rel k u v) (hk : k + 3 ≤ 1540) (v1 : Int32) (v2 : Int32) : wpX_frame (fun r => wpY_frame (fun r' => r' = r ∧ i_Rel (k + 3) u v) v v1 v2) u v1 v2 := by
  obtain ⟨M, N, C, D, A, sw, cw, ld, lg, nw, ls, sp, vi, kc, ac, wr, hg, sb, mk, kx, st, ss, fo, fl, cb, cf, co, rh, ax, go, bl, bh, dp, an, xl, xh, xc, ky, ay, yl, yh, ya, yc, rfl, rfl, hI⟩ := I
  obtain ⟨⟨hM1, hM8, hN, hC, hD, hA⟩, hlg, hwr, hco, hrh, hcf, hgo, hF, hdp, hbl, hbh, han, hxl, hxh, hkx, hax, hK, hR⟩ := id hI
  rcases qa_ix v1 (n := N) (by omega) with ⟨h0, hm⟩ | ⟨h0, h1, h2, hm⟩ | ⟨j, hj, rfl⟩
  · exact br_t h0 (br_t rfl (br_t h0 ⟨rfl, qr_mk hI⟩))
  · exact br_f h0 (br_t h1 (br_t rfl (br_f h0 (br_t h1 ⟨rfl, qr_mk hI⟩))))
  · have h0 := nI_pos (n := j) (by omega)
    have hl : ¬ nI N ≤ nI j := nI_ge hj (by omega)
    rcases qa_ix v2 (n := 4) (by omega) with ⟨g0, hm⟩ | ⟨g0, g1, g2, hm⟩ | ⟨s, hs, rfl⟩
    · exact br_f h0 (br_f hl (br_f qa_10 (br_t g0 (br_t rfl (br_f h0 (br_f hl (br_t g0 ⟨rfl, qr_mk hI⟩)))))))
    · exact br_f h0 (br_f hl (br_f qa_10 (br_f g0 (br_t g1 (br_t rfl (br_f h0 (br_f hl (br_f g0 (br_f (hm 3 (by omega)).2.1 ⟨rfl, qr_mk hI⟩)))))))))
    · have g0 := nI_pos (n := s) (by omega)
      have gl : ¬ 4 ≤ nI s := nI_ge (b := 4) hs (by omega)
      have g3 : nI s ≤ 3 := (qa_le_3 (by omega)).mpr (by omega)
      have hi : vp_in (nI j * 4 + nI s) 256 := ql_ix4 hs (by omega)
      by_cases z : fl (nI j * 4 + nI s).toNatClampNeg = 0
      · exact br_f h0 (br_f hl (br_f qa_10 (br_f g0 (br_f gl (br_f qa_10 (nm_e ⟨hi, br_t z (br_f h0 (br_f hl (br_f g0 (br_t g3 ⟨hi, br_t z ⟨rfl, qr_mk hI⟩⟩))))⟩))))))
      · exact br_f h0 (br_f hl (br_f qa_10 (br_f g0 (br_f gl (br_f qa_10 (nm_e ⟨hi, br_f z ⟨hi, hi, br_f h0 (br_f hl (br_f g0 (br_t g3 ⟨hi, br_f z ⟨hi, hi, ⟨rfl, qr_mk hI⟩⟩⟩)))⟩⟩))))))
theorem i_vc_ackRange {k : Nat} {u : SX} {v : SY} (I : i_Rel k u v) (hk : k + 3 ≤ 1540) (v1 : Int32) (v2 : Int32) : wpX_ackRange (fun r => wpY_ackRange (fun r' => r' = r ∧ i_Rel (k + 3) u v) v v1 (lw_bz v2)) u v1 (lw_bz v2) := by
  obtain ⟨M, N, C, D, A, sw, cw, ld, lg, nw, ls, sp, vi, kc, ac, wr, hg, sb, mk, kx, st, ss, fo, fl, cb, cf, co, rh, ax, go, bl, bh, dp, an, xl, xh, xc, ky, ay, yl, yh, ya, yc, rfl, rfl, hI⟩ := I
  obtain ⟨⟨hM1, hM8, hN, hC, hD, hA⟩, hlg, hwr, hco, hrh, hcf, hgo, hF, hdp, hbl, hbh, han, hxl, hxh, hkx, hax, hK, hR⟩ := id hI
  rcases qa_ix v1 (n := C) (by omega) with ⟨h0, hm⟩ | ⟨h0, h1, h2, hm⟩ | ⟨j, hj, rfl⟩
  · exact br_t h0 (br_t h0 ⟨rfl, qr_mk hI⟩)
  · exact br_f h0 (br_f h2 (br_f h0 (br_f h2 ⟨rfl, qr_mk hI⟩)))
  · have h0 := nI_pos (n := j) (by omega)
    have hl : nI j < nI C := nI_lt hj (by omega)
    have hi : vp_in (nI j) 4 := vp_in_nI (by omega) (by omega)
    by_cases z : lw_bz v2 = 0
    · exact br_f h0 (br_t hl (br_t z ⟨hi, br_f h0 (br_t hl (br_t z ⟨hi, ⟨rfl, qr_mk hI⟩⟩))⟩))
    · exact br_f h0 (br_t hl (br_f z ⟨hi, br_f h0 (br_t hl (br_f z ⟨hi, ⟨rfl, qr_mk hI⟩⟩))⟩))
theorem i_vc_channelPn {k : Nat} {u : SX} {v : SY} (I : i_Rel k u v) (hk : k + 3 ≤ 1540) (v1 : Int32) : wpX_channelPn (fun r => wpY_channelPn (fun r' => r' = r ∧ i_Rel (k + 3) u v) v v1) u v1 := by
  obtain ⟨M, N, C, D, A, sw, cw, ld, lg, nw, ls, sp, vi, kc, ac, wr, hg, sb, mk, kx, st, ss, fo, fl, cb, cf, co, rh, ax, go, bl, bh, dp, an, xl, xh, xc, ky, ay, yl, yh, ya, yc, rfl, rfl, hI⟩ := I
  obtain ⟨⟨hM1, hM8, hN, hC, hD, hA⟩, hlg, hwr, hco, hrh, hcf, hgo, hF, hdp, hbl, hbh, han, hxl, hxh, hkx, hax, hK, hR⟩ := id hI
  rcases qa_ix v1 (n := D) (by omega) with ⟨h0, hm⟩ | ⟨h0, h1, h2, hm⟩ | ⟨j, hj, rfl⟩
  · exact br_t rfl (br_t h0 (br_t rfl (br_t h0 ⟨rfl, qr_mk hI⟩)))
  · exact br_t rfl (br_f h0 (br_t h1 (br_t rfl (br_f h0 (br_f h2 ⟨rfl, qr_mk hI⟩)))))
  · have h0 := nI_pos (n := j) (by omega)
    have hi : vp_in (nI j) 8 := vp_in_nI (by omega) (by omega)
    exact br_t rfl (br_f h0 (br_f (nI_ge hj (by omega)) (br_f qa_10 ⟨hi, br_f h0 (br_t (nI_lt hj (by omega)) ⟨hi, ⟨rfl, qr_mk hI⟩⟩)⟩)))
theorem i_vc_stats {k : Nat} {u : SX} {v : SY} (I : i_Rel k u v) (hk : k + 3 ≤ 1540) (v1 : Int32) : wpX_stats (fun r => wpY_stats (fun r' => r' = r ∧ i_Rel (k + 3) u v) v v1) u v1 := by
  obtain ⟨M, N, C, D, A, sw, cw, ld, lg, nw, ls, sp, vi, kc, ac, wr, hg, sb, mk, kx, st, ss, fo, fl, cb, cf, co, rh, ax, go, bl, bh, dp, an, xl, xh, xc, ky, ay, yl, yh, ya, yc, rfl, rfl, hI⟩ := I
  obtain ⟨⟨hM1, hM8, hN, hC, hD, hA⟩, hlg, hwr, hco, hrh, hcf, hgo, hF, hdp, hbl, hbh, han, hxl, hxh, hkx, hax, hK, hR⟩ := id hI
  rcases qa_ix v1 (n := 9) (by omega) with ⟨h0, hm⟩ | ⟨h0, h1, h2, hm⟩ | ⟨j, hj, rfl⟩
  · exact br_t h0 (br_f (hm 0 (by omega)) (br_f (hm 1 (by omega)) (br_f (hm 2 (by omega)) (br_f (hm 3 (by omega)) (br_f (hm 4 (by omega)) (br_f (hm 5 (by omega)) (br_f (hm 6 (by omega)) (br_f (hm 7 (by omega)) (br_f (hm 8 (by omega)) ⟨rfl, qr_mk hI⟩)))))))))
  · exact br_f h0 (br_t (hm 8 (by omega)).1 (br_f (hm 0 (by omega)).2.2 (br_f (hm 1 (by omega)).2.2 (br_f (hm 2 (by omega)).2.2 (br_f (hm 3 (by omega)).2.2 (br_f (hm 4 (by omega)).2.2 (br_f (hm 5 (by omega)).2.2 (br_f (hm 6 (by omega)).2.2 (br_f (hm 7 (by omega)).2.2 (br_f (hm 8 (by omega)).2.2 ⟨rfl, qr_mk hI⟩))))))))))
  · have h0 := nI_pos (n := j) (by omega)
    have h8 : ¬ 8 < nI j := fun z => absurd ((qa_gt_8 (by omega)).mp z) (by omega)
    have hc : j = 0 ∨ j = 1 ∨ j = 2 ∨ j = 3 ∨ j = 4 ∨ j = 5 ∨ j = 6 ∨ j = 7 ∨ j = 8 := by omega
    rcases hc with rfl | rfl | rfl | rfl | rfl | rfl | rfl | rfl | rfl
    · exact br_f h0 (br_f h8 (br_t rfl (br_t rfl ⟨rfl, qr_mk hI⟩)))
    · exact br_f h0 (br_f h8 (br_f (by decide) (br_t rfl (br_f (by decide) (br_t rfl ⟨rfl, qr_mk hI⟩)))))
    · exact br_f h0 (br_f h8 (br_f (by decide) (br_f (by decide) (br_t rfl (br_f (by decide) (br_f (by decide) (br_t rfl ⟨rfl, qr_mk hI⟩)))))))
    · exact br_f h0 (br_f h8 (br_f (by decide) (br_f (by decide) (br_f (by decide) (br_t rfl (br_f (by decide) (br_f (by decide) (br_f (by decide) (br_t rfl ⟨rfl, qr_mk hI⟩)))))))))
    · exact br_f h0 (br_f h8 (br_f (by decide) (br_f (by decide) (br_f (by decide) (br_f (by decide) (br_t rfl (br_f (by decide) (br_f (by decide) (br_f (by decide) (br_f (by decide) (br_t rfl ⟨rfl, qr_mk hI⟩)))))))))))
    · exact br_f h0 (br_f h8 (br_f (by decide) (br_f (by decide) (br_f (by decide) (br_f (by decide) (br_f (by decide) (br_t rfl (br_f (by decide) (br_f (by decide) (br_f (by decide) (br_f (by decide) (br_f (by decide) (br_t rfl ⟨rfl, qr_mk hI⟩)))))))))))))
    · exact br_f h0 (br_f h8 (br_f (by decide) (br_f (by decide) (br_f (by decide) (br_f (by decide) (br_f (by decide) (br_f (by decide) (br_t rfl (br_f (by decide) (br_f (by decide) (br_f (by decide) (br_f (by decide) (br_f (by decide) (br_f (by decide) (br_t rfl ⟨rfl, qr_mk hI⟩)))))))))))))))
    · exact br_f h0 (br_f h8 (br_f (by decide) (br_f (by decide) (br_f (by decide) (br_f (by decide) (br_f (by decide) (br_f (by decide) (br_f (by decide) (br_t rfl (br_f (by decide) (br_f (by decide) (br_f (by decide) (br_f (by decide) (br_f (by decide) (br_f (by decide) (br_f (by decide) (br_t rfl ⟨rfl, qr_mk hI⟩)))))))))))))))))
    · exact br_f h0 (br_f h8 (br_f (by decide) (br_f (by decide) (br_f (by decide) (br_f (by decide) (br_f (by decide) (br_f (by decide) (br_f (by decide) (br_f (by decide) (br_t rfl (br_f (by decide) (br_f (by decide) (br_f (by decide) (br_f (by decide) (br_f (by decide) (br_f (by decide) (br_f (by decide) (br_f (by decide) (br_t rfl ⟨rfl, qr_mk hI⟩)))))))))))))))))))
theorem i_vc_credit {k : Nat} {u : SX} {v : SY} (I : i_Rel k u v) (hk : k + 3 ≤ 1540) (v1 : Int32) : wpX_credit (fun r => wpY_credit (fun r' => r' = r ∧ i_Rel (k + 3) u v) v v1) u v1 := by
  obtain ⟨M, N, C, D, A, sw, cw, ld, lg, nw, ls, sp, vi, kc, ac, wr, hg, sb, mk, kx, st, ss, fo, fl, cb, cf, co, rh, ax, go, bl, bh, dp, an, xl, xh, xc, ky, ay, yl, yh, ya, yc, rfl, rfl, hI⟩ := I
  obtain ⟨⟨hM1, hM8, hN, hC, hD, hA⟩, hlg, hwr, hco, hrh, hcf, hgo, hF, hdp, hbl, hbh, han, hxl, hxh, hkx, hax, hK, hR⟩ := id hI
  rcases qa_ix v1 (n := 10) (by omega) with ⟨h0, hm⟩ | ⟨h0, h1, h2, hm⟩ | ⟨j, hj, rfl⟩
  · have h5 : v1 < 5 := Int32.lt_of_lt_of_le h0 (by decide)
    exact br_t h0 (br_t h0 (br_f (hm 4 (by omega)) (br_t h5 (br_f (hm 9 (by omega)) ⟨rfl, qr_mk hI⟩))))
  · have h8 : 8 < v1 := (hm 8 (by omega)).1
    have h5 : ¬ v1 < 5 := Int32.not_lt.mpr (Int32.le_of_lt (hm 5 (by omega)).1)
    exact br_f h0 (br_f h2 (br_f h0 (br_t (hm 3 (by omega)).1 (br_f (hm 4 (by omega)).2.2 (br_f h5 (br_t h8 (br_f (hm 9 (by omega)).2.2 ⟨rfl, qr_mk hI⟩)))))))
  · have h0 := nI_pos (n := j) (by omega)
    have hc : j = 0 ∨ j = 1 ∨ j = 2 ∨ j = 3 ∨ j = 4 ∨ j = 5 ∨ j = 6 ∨ j = 7 ∨ j = 8 ∨ j = 9 := by omega
    rcases hc with rfl | rfl | rfl | rfl | rfl | rfl | rfl | rfl | rfl | rfl
    · exact br_f h0 (br_t (by decide) (br_f (by decide) ⟨vp_in_nI (by omega) (by omega), br_f h0 (br_f (by decide) ⟨vp_in_nI (by omega) (by omega), (hkx.1 0 (by omega)).symm, qr_mk hI⟩)⟩))
    · exact br_f h0 (br_t (by decide) (br_f (by decide) ⟨vp_in_nI (by omega) (by omega), br_f h0 (br_f (by decide) ⟨vp_in_nI (by omega) (by omega), (hkx.1 1 (by omega)).symm, qr_mk hI⟩)⟩))
    · exact br_f h0 (br_t (by decide) (br_f (by decide) ⟨vp_in_nI (by omega) (by omega), br_f h0 (br_f (by decide) ⟨vp_in_nI (by omega) (by omega), (hkx.1 2 (by omega)).symm, qr_mk hI⟩)⟩))
    · exact br_f h0 (br_t (by decide) (br_f (by decide) ⟨vp_in_nI (by omega) (by omega), br_f h0 (br_f (by decide) ⟨vp_in_nI (by omega) (by omega), (hkx.1 3 (by omega)).symm, qr_mk hI⟩)⟩))
    · exact br_f h0 (br_t (by decide) (br_f (by decide) ⟨vp_in_nI (by omega) (by omega), br_f h0 (br_t (by decide) (br_t rfl ⟨hkx.2.symm, qr_mk hI⟩))⟩))
    · exact br_f h0 (br_t (by decide) (br_t (by decide) ⟨vp_in_iff.mpr (by decide), br_f h0 (br_t (by decide) (br_f (by decide) (br_f (by decide) (br_f (by decide) ⟨vp_in_iff.mpr (by decide), (hax.1 0 (by omega)).symm, qr_mk hI⟩))))⟩))
    · exact br_f h0 (br_t (by decide) (br_t (by decide) ⟨vp_in_iff.mpr (by decide), br_f h0 (br_t (by decide) (br_f (by decide) (br_f (by decide) (br_f (by decide) ⟨vp_in_iff.mpr (by decide), (hax.1 1 (by omega)).symm, qr_mk hI⟩))))⟩))
    · exact br_f h0 (br_t (by decide) (br_t (by decide) ⟨vp_in_iff.mpr (by decide), br_f h0 (br_t (by decide) (br_f (by decide) (br_f (by decide) (br_f (by decide) ⟨vp_in_iff.mpr (by decide), (hax.1 2 (by omega)).symm, qr_mk hI⟩))))⟩))
    · exact br_f h0 (br_t (by decide) (br_t (by decide) ⟨vp_in_iff.mpr (by decide), br_f h0 (br_t (by decide) (br_f (by decide) (br_f (by decide) (br_f (by decide) ⟨vp_in_iff.mpr (by decide), (hax.1 3 (by omega)).symm, qr_mk hI⟩))))⟩))
    · exact br_f h0 (br_t (by decide) (br_t (by decide) ⟨vp_in_iff.mpr (by decide), br_f h0 (br_t (by decide) (br_f (by decide) (br_f (by decide) (br_t (by decide) (br_t rfl ⟨hax.2.symm, qr_mk hI⟩)))))⟩))
theorem i_vc_streamInfo {k : Nat} {u : SX} {v : SY} (I : i_Rel k u v) (hk : k + 3 ≤ 1540) (v1 : Int32) (v2 : Int32) : wpX_streamInfo (fun r => wpY_streamInfo (fun r' => r' = r ∧ i_Rel (k + 3) u v) v v1 v2) u v1 v2 := by
  obtain ⟨M, N, C, D, A, sw, cw, ld, lg, nw, ls, sp, vi, kc, ac, wr, hg, sb, mk, kx, st, ss, fo, fl, cb, cf, co, rh, ax, go, bl, bh, dp, an, xl, xh, xc, ky, ay, yl, yh, ya, yc, rfl, rfl, hI⟩ := I
  obtain ⟨⟨hM1, hM8, hN, hC, hD, hA⟩, hlg, hwr, hco, hrh, hcf, hgo, hF, hdp, hbl, hbh, han, hxl, hxh, hkx, hax, hK, hR⟩ := id hI
  rcases qa_ix v1 (n := 4) (by omega) with ⟨g0, gm⟩ | ⟨g0, g1, g2, gm⟩ | ⟨s, hs, rfl⟩
  · exact br_t g0 (br_t rfl (br_t g0 ⟨rfl, qr_mk hI⟩))
  · exact br_f g0 (br_t g1 (br_t rfl (br_f g0 (br_f (gm 3 (by omega)).2.1 ⟨rfl, qr_mk hI⟩))))
  · have g0 := nI_pos (n := s) (by omega)
    have gl : ¬ 4 ≤ nI s := nI_ge (b := 4) hs (by omega)
    have g3 : nI s ≤ 3 := (qa_le_3 (by omega)).mpr (by omega)
    have h4 : vp_in (nI s) 4 := vp_in_nI hs (by omega)
    rcases qa_ix v2 (n := 8) (by omega) with ⟨h0, hm⟩ | ⟨h0, h1, h2, hm⟩ | ⟨j, hj, rfl⟩
    · exact br_f g0 (br_f gl (br_f qa_10 (br_t h0 (br_f g0 (br_t g3 (br_f (hm 0 (by omega)) (br_f (hm 1 (by omega)) (br_f (hm 2 (by omega)) (br_f (hm 3 (by omega)) (br_f (hm 4 (by omega)) (br_f (hm 5 (by omega)) (br_f (hm 6 (by omega)) (br_f (hm 7 (by omega)) ⟨rfl, qr_mk hI⟩)))))))))))))
    · exact br_f g0 (br_f gl (br_f qa_10 (br_f h0 (br_t (hm 7 (by omega)).1 (br_f g0 (br_t g3 (br_f (hm 0 (by omega)).2.2 (br_f (hm 1 (by omega)).2.2 (br_f (hm 2 (by omega)).2.2 (br_f (hm 3 (by omega)).2.2 (br_f (hm 4 (by omega)).2.2 (br_f (hm 5 (by omega)).2.2 (br_f (hm 6 (by omega)).2.2 (br_f (hm 7 (by omega)).2.2 ⟨rfl, qr_mk hI⟩))))))))))))))
    · have h0 := nI_pos (n := j) (by omega)
      have h7 : ¬ 7 < nI j := fun z => absurd ((qa_gt_7 (by omega)).mp z) (by omega)
      have hc : j = 0 ∨ j = 1 ∨ j = 2 ∨ j = 3 ∨ j = 4 ∨ j = 5 ∨ j = 6 ∨ j = 7 := by omega
      rcases hc with rfl | rfl | rfl | rfl | rfl | rfl | rfl | rfl
      · exact br_f g0 (br_f gl (br_f qa_10 (br_f h0 (br_f h7 (br_t rfl ⟨h4, (br_f g0 (br_t g3 (br_t rfl ⟨h4, ⟨rfl, qr_mk hI⟩⟩)))⟩)))))
      · exact br_f g0 (br_f gl (br_f qa_10 (br_f h0 (br_f h7 (br_f (by decide) (br_t rfl ⟨h4, (br_f g0 (br_t g3 (br_f (by decide) (br_t rfl ⟨h4, ⟨rfl, qr_mk hI⟩⟩))))⟩))))))
      · obtain ⟨r, hX, hY⟩ := ql_cmM (sw := sw) (cw := cw) (mp := nI M) (ld := ld) (nx := nI N) (lg := lg) (nw := nw) (ls := ls) (sp := sp) (bc := nI C) (vi := vi) (dc := nI D) (ak := nI A) (kc := kc) (ac := ac) (wr := wr) (hg := hg) (sb := sb) (mk := mk) (kx := kx) (st := st) (ss := ss) (fo := fo) (fl := fl) (cb := cb) (cf := cf) (co := co) (rh := rh) (ax := ax) (go := go) (bl := bl) (bh := bh) (dp := dp) (an := an) (xl := xl) (xh := xh) (xc := xc) (ky := ky) (ay := ay) (yl := yl) (yh := yh) (ya := ya) (yc := yc) hs hwr 1
        exact br_f g0 (br_f gl (br_f qa_10 (br_f h0 (br_f h7 (br_f (by decide) (br_f (by decide) (br_t rfl (hX _ (br_f g0 (br_t g3 (br_f (by decide) (br_f (by decide) (br_t rfl (hY _ ⟨rfl, qr_mk hI⟩))))))))))))))
      · obtain ⟨r, hX, hY⟩ := ql_cmM (sw := sw) (cw := cw) (mp := nI M) (ld := ld) (nx := nI N) (lg := lg) (nw := nw) (ls := ls) (sp := sp) (bc := nI C) (vi := vi) (dc := nI D) (ak := nI A) (kc := kc) (ac := ac) (wr := wr) (hg := hg) (sb := sb) (mk := mk) (kx := kx) (st := st) (ss := ss) (fo := fo) (fl := fl) (cb := cb) (cf := cf) (co := co) (rh := rh) (ax := ax) (go := go) (bl := bl) (bh := bh) (dp := dp) (an := an) (xl := xl) (xh := xh) (xc := xc) (ky := ky) (ay := ay) (yl := yl) (yh := yh) (ya := ya) (yc := yc) hs hwr 2
        exact br_f g0 (br_f gl (br_f qa_10 (br_f h0 (br_f h7 (br_f (by decide) (br_f (by decide) (br_f (by decide) (br_t rfl (hX _ (br_f g0 (br_t g3 (br_f (by decide) (br_f (by decide) (br_f (by decide) (br_t rfl (hY _ ⟨rfl, qr_mk hI⟩))))))))))))))))
      · obtain ⟨r, hX, hY⟩ := ql_cmM (sw := sw) (cw := cw) (mp := nI M) (ld := ld) (nx := nI N) (lg := lg) (nw := nw) (ls := ls) (sp := sp) (bc := nI C) (vi := vi) (dc := nI D) (ak := nI A) (kc := kc) (ac := ac) (wr := wr) (hg := hg) (sb := sb) (mk := mk) (kx := kx) (st := st) (ss := ss) (fo := fo) (fl := fl) (cb := cb) (cf := cf) (co := co) (rh := rh) (ax := ax) (go := go) (bl := bl) (bh := bh) (dp := dp) (an := an) (xl := xl) (xh := xh) (xc := xc) (ky := ky) (ay := ay) (yl := yl) (yh := yh) (ya := ya) (yc := yc) hs hwr 3
        exact br_f g0 (br_f gl (br_f qa_10 (br_f h0 (br_f h7 (br_f (by decide) (br_f (by decide) (br_f (by decide) (br_f (by decide) (br_t rfl (hX _ (br_f g0 (br_t g3 (br_f (by decide) (br_f (by decide) (br_f (by decide) (br_f (by decide) (br_t rfl (hY _ ⟨rfl, qr_mk hI⟩))))))))))))))))))
      · exact br_f g0 (br_f gl (br_f qa_10 (br_f h0 (br_f h7 (br_f (by decide) (br_f (by decide) (br_f (by decide) (br_f (by decide) (br_f (by decide) (br_t rfl ⟨h4, (br_f g0 (br_t g3 (br_f (by decide) (br_f (by decide) (br_f (by decide) (br_f (by decide) (br_f (by decide) (br_t rfl ⟨h4, ⟨rfl, qr_mk hI⟩⟩))))))))⟩))))))))))
      · obtain ⟨r, hX, hY⟩ := ql_cfM (sw := sw) (cw := cw) (mp := nI M) (ld := ld) (nx := nI N) (lg := lg) (nw := nw) (ls := ls) (sp := sp) (bc := nI C) (vi := vi) (dc := nI D) (ak := nI A) (kc := kc) (ac := ac) (wr := wr) (hg := hg) (sb := sb) (mk := mk) (kx := kx) (st := st) (ss := ss) (fo := fo) (fl := fl) (cb := cb) (cf := cf) (co := co) (rh := rh) (ax := ax) (go := go) (bl := bl) (bh := bh) (dp := dp) (an := an) (xl := xl) (xh := xh) (xc := xc) (ky := ky) (ay := ay) (yl := yl) (yh := yh) (ya := ya) (yc := yc) hs
        exact br_f g0 (br_f gl (br_f qa_10 (br_f h0 (br_f h7 (br_f (by decide) (br_f (by decide) (br_f (by decide) (br_f (by decide) (br_f (by decide) (br_f (by decide) (br_t rfl (hX _ (br_f g0 (br_t g3 (br_f (by decide) (br_f (by decide) (br_f (by decide) (br_f (by decide) (br_f (by decide) (br_f (by decide) (br_t rfl (hY _ ⟨rfl, qr_mk hI⟩))))))))))))))))))))))
      · exact br_f g0 (br_f gl (br_f qa_10 (br_f h0 (br_f h7 (br_f (by decide) (br_f (by decide) (br_f (by decide) (br_f (by decide) (br_f (by decide) (br_f (by decide) (br_f (by decide) (br_t rfl ⟨h4, (br_f g0 (br_t g3 (br_f (by decide) (br_f (by decide) (br_f (by decide) (br_f (by decide) (br_f (by decide) (br_f (by decide) (br_f (by decide) (br_t rfl ⟨h4, ⟨rfl, qr_mk hI⟩⟩))))))))))⟩))))))))))))
end QL
end
section
section QW
variable {sw cw mp ld nx lg nw ls sp bc vi dc ak kc ac : Int32} {wr hg sb mk kx st ss fo fl cb cf co rh ax go bl bh dp an xl xh xc ky ay yl yh ya yc : Nat → Int32}
theorem i_vc_write {k : Nat} {u : SX} {v : SY} (I : i_Rel k u v) (hk : k + 3 ≤ 1540) (v1 : Int32) (v2 : Int32) : wpX_write (fun r u' => wpY_write (fun r' v' => r' = r ∧ i_Rel (k + 3) u' v') v v1 v2) u v1 v2 := by
  obtain ⟨M, N, C, D, A, sw, cw, ld, lg, nw, ls, sp, vi, kc, ac, wr, hg, sb, mk, kx, st, ss, fo, fl, cb, cf, co, rh, ax, go, bl, bh, dp, an, xl, xh, xc, ky, ay, yl, yh, ya, yc, rfl, rfl, hI⟩ := I
  obtain ⟨⟨hM1, hM8, hN, hC, hD, hA⟩, hlg, hwr, hco, hrh, hcf, hgo, hF, hdp, hbl, hbh, han, hxl, hxh, hkx, hax, hK, hR⟩ := id hI
  rcases qa_ix v1 (n := 4) (by omega) with ⟨g0, gm⟩ | ⟨g0, g1, g2, gm⟩ | ⟨s, hs, rfl⟩
  · exact br_t g0 (br_t rfl (br_t g0 ⟨rfl, qr_mk hI⟩))
  · exact br_f g0 (br_t g1 (br_t rfl (br_f g0 (br_t (gm 3 (by omega)).1 ⟨rfl, qr_mk hI⟩))))
  · have g0 := nI_pos (n := s) (by omega)
    have gl : ¬ 4 ≤ nI s := nI_ge (b := 4) hs (by omega)
    have g3 : ¬ 3 < nI s := fun z => absurd ((qa_gt_3 (by omega)).mp z) (by omega)
    have h4 : vp_in (nI s) 4 := vp_in_nI hs (by omega)
    obtain ⟨w, hw, ew⟩ := hwr (nI s).toNatClampNeg
    by_cases z : wr (nI s).toNatClampNeg = 32
    · exact br_f g0 (br_f gl (br_f qa_10 ⟨h4, br_t z (br_f g0 (br_f g3 ⟨h4, br_t z ⟨rfl, qr_mk hI⟩⟩))⟩))
    · have hw2 : w < 32 := by
        rcases Nat.lt_or_ge w 32 with l | l
        · exact l
        · obtain rfl : w = 32 := by omega
          exact absurd ew z
      have hx : vp_in (nI s * 32 + wr (nI s).toNatClampNeg) 128 := by rw [ew]; exact ql_ix32 hs hw2
      have hwr' : qa_B (upd wr (nI s).toNatClampNeg (wr (nI s).toNatClampNeg + 1)) 32 := qa_Bx hwr ⟨w + 1, by omega, by rw [ew, nI_1]⟩
      exact br_f g0 (br_f gl (br_f qa_10 ⟨h4, br_f z ⟨h4, nm_e ⟨hx, nm_e ⟨hx, nm_e ⟨h4, h4, nm_e (br_f g0 (br_f g3 ⟨h4, br_f z ⟨h4, nm_e ⟨hx, nm_e ⟨hx, nm_e ⟨h4, h4, nm_e ⟨rfl, qr_mk ⟨⟨hM1, hM8, hN, hC, hD, hA⟩, hlg, hwr', hco, hrh, hcf, hgo, hF, hdp, hbl, hbh, han, hxl, hxh, hkx, hax, hK, hR⟩⟩⟩⟩⟩⟩⟩))⟩⟩⟩⟩⟩))
theorem i_vc_read {k : Nat} {u : SX} {v : SY} (I : i_Rel k u v) (hk : k + 3 ≤ 1540) (v1 : Int32) : wpX_read (fun r u' => wpY_read (fun r' v' => r' = r ∧ i_Rel (k + 3) u' v') v v1) u v1 := by
  obtain ⟨M, N, C, D, A, sw, cw, ld, lg, nw, ls, sp, vi, kc, ac, wr, hg, sb, mk, kx, st, ss, fo, fl, cb, cf, co, rh, ax, go, bl, bh, dp, an, xl, xh, xc, ky, ay, yl, yh, ya, yc, rfl, rfl, hI⟩ := I
  obtain ⟨⟨hM1, hM8, hN, hC, hD, hA⟩, hlg, hwr, hco, hrh, hcf, hgo, hF, hdp, hbl, hbh, han, hxl, hxh, hkx, hax, hK, hR⟩ := id hI
  rcases qa_ix v1 (n := 4) (by omega) with ⟨g0, gm⟩ | ⟨g0, g1, g2, gm⟩ | ⟨s, hs, rfl⟩
  · exact br_t g0 (br_t rfl (br_t g0 ⟨rfl, qr_mk hI⟩))
  · exact br_f g0 (br_t g1 (br_t rfl (br_f g0 (br_f (gm 3 (by omega)).2.1 ⟨rfl, qr_mk hI⟩))))
  · have g0 := nI_pos (n := s) (by omega)
    have gl : ¬ 4 ≤ nI s := nI_ge (b := 4) hs (by omega)
    have g3 : nI s ≤ 3 := (qa_le_3 (by omega)).mpr (by omega)
    have h4 : vp_in (nI s) 4 := vp_in_nI hs (by omega)
    obtain ⟨w, hw, ew⟩ := hco (nI s).toNatClampNeg
    by_cases z : co (nI s).toNatClampNeg = 32
    · exact br_f g0 (br_f gl (br_f qa_10 ⟨h4, br_t z (br_f g0 (br_t g3 ⟨h4, br_t z ⟨rfl, qr_mk hI⟩⟩))⟩))
    · have hw2 : w < 32 := by
        rcases Nat.lt_or_ge w 32 with l | l
        · exact l
        · obtain rfl : w = 32 := by omega
          exact absurd ew z
      have hx : vp_in (nI s * 32 + co (nI s).toNatClampNeg) 128 := by rw [ew]; exact ql_ix32 hs hw2
      have hco' : qa_B (upd co (nI s).toNatClampNeg (co (nI s).toNatClampNeg + 1)) 32 := qa_Bx hco ⟨w + 1, by omega, by rw [ew, nI_1]⟩
      by_cases f : cf (nI s * 32 + co (nI s).toNatClampNeg).toNatClampNeg = 0
      · exact br_f g0 (br_f gl (br_f qa_10 ⟨h4, br_f z ⟨h4, nm_e ⟨hx, br_t f (br_f g0 (br_t g3 ⟨h4, br_f z ⟨h4, nm_e ⟨hx, br_t f ⟨rfl, qr_mk hI⟩⟩⟩⟩))⟩⟩⟩))
      · exact br_f g0 (br_f gl (br_f qa_10 ⟨h4, br_f z ⟨h4, nm_e ⟨hx, br_f f ⟨h4, h4, nm_e ⟨hx, br_f g0 (br_t g3 ⟨h4, br_f z ⟨h4, nm_e ⟨hx, br_f f ⟨h4, h4, nm_e ⟨hx, rfl, qr_mk ⟨⟨hM1, hM8, hN, hC, hD, hA⟩, hlg, hwr, hco', hrh, hcf, hgo, hF, hdp, hbl, hbh, han, hxl, hxh, hkx, hax, hK, hR⟩⟩⟩⟩⟩⟩)⟩⟩⟩⟩⟩))
end QW
end
section
section QM
variable {sw cw mp ld nx lg nw ls sp bc vi dc ak kc ac : Int32} {wr hg sb mk kx st ss fo fl cb cf co rh ax go bl bh dp an xl xh xc ky ay yl yh ya yc : Nat → Int32}
abbrev qt_A : Type := (Nat → Int32) → (Nat → Int32) → (Nat → Int32) → (Nat → Int32) → (Nat → Int32) → (Nat → Int32) → (Nat → Int32) → (Nat → Int32) → (Nat → Int32) → (Nat → Int32) → (Nat → Int32) → (Nat → Int32) → (Nat → Int32) → (Nat → Int32) → (Nat → Int32) → (Nat → Int32) → (Nat → Int32) → (Nat → Int32) → (Nat → Int32) → (Nat → Int32) → (Nat → Int32) → (Nat → Int32) → Prop
abbrev qt_B : Type := (Nat → Int32) → (Nat → Int32) → (Nat → Int32) → (Nat → Int32) → (Nat → Int32) → (Nat → Int32) → (Nat → Int32) → (Nat → Int32) → (Nat → Int32) → (Nat → Int32) → (Nat → Int32) → (Nat → Int32) → (Nat → Int32) → (Nat → Int32) → (Nat → Int32) → (Nat → Int32) → (Nat → Int32) → (Nat → Int32) → (Nat → Int32) → (Nat → Int32) → (Nat → Int32) → (Nat → Int32) → (Nat → Int32) → Prop
abbrev qt_X : Type := Int32 → Int32 → Int32 → Int32 → Int32 → Int32 → Int32 → Int32 → Int32 → Int32 → Int32 → Int32 → Int32 → Int32 → (Nat → Int32) → (Nat → Int32) → (Nat → Int32) → (Nat → Int32) → (Nat → Int32) → (Nat → Int32) → (Nat → Int32) → (Nat → Int32) → (Nat → Int32) → (Nat → Int32) → (Nat → Int32) → (Nat → Int32) → (Nat → Int32) → (Nat → Int32) → (Nat → Int32) → (Nat → Int32) → (Nat → Int32) → (Nat → Int32) → (Nat → Int32) → (Nat → Int32) → (Nat → Int32) → (Nat → Int32) → Prop
abbrev qt_Y : Type := Int32 → Int32 → Int32 → Int32 → Int32 → Int32 → Int32 → Int32 → Int32 → Int32 → Int32 → Int32 → Int32 → Int32 → Int32 → Int32 → (Nat → Int32) → (Nat → Int32) → (Nat → Int32) → (Nat → Int32) → (Nat → Int32) → (Nat → Int32) → (Nat → Int32) → (Nat → Int32) → (Nat → Int32) → (Nat → Int32) → (Nat → Int32) → (Nat → Int32) → (Nat → Int32) → (Nat → Int32) → (Nat → Int32) → (Nat → Int32) → (Nat → Int32) → (Nat → Int32) → (Nat → Int32) → (Nat → Int32) → (Nat → Int32) → (Nat → Int32) → (Nat → Int32) → Prop
theorem qm_l4 {s : Nat} (h : s < 4) : ¬ 4 ≤ nI s := nI_ge (b := 4) h (by omega)
theorem qm_g4 {s : Nat} (h : 4 ≤ s) (h2 : s < 2 ^ 31) : 4 ≤ nI s := nI_le (a := 4) h h2
/-! the marks of a frame: acknowledged -/
theorem qm_a1 {s o l : Nat} (hs : s < 4) (hol : o + l ≤ 32) {x1 : Int32} : ∀ (d i : Nat) (mk : Nat → Int32), i + d = l → ∃ mk', (∀ (post : SX → Prop) (J : Int32 → qt_A), J (nI (s + 1)) wr hg sb mk' kx st ss fo fl cb cf co rh ax go bl bh dp an xl xh xc → wX_acknowledge_83 post J x1 (nI s) (nI (o + l)) sw cw mp ld nx lg nw ls sp bc vi dc ak (d + 1) (nI (o + i)) wr hg sb mk kx st ss fo fl cb cf co rh ax go bl bh dp an xl xh xc) ∧ (∀ (post : SY → Prop) (J : Int32 → qt_B), J (nI (s + 1)) sb mk' wr hg ky st ss fo fl cb cf co rh ay go bl bh dp an yl yh ya yc → wY_markFrames_38 post J x1 0 3 (nI s) (nI o) (nI l) sw cw mp ld kc nx lg nw ls sp ac vi bc dc ak (d + 1) (nI i) sb mk wr hg ky st ss fo fl cb cf co rh ay go bl bh dp an yl yh ya yc) := by
  intro d
  induction d with
  | zero =>
    intro i mk hi
    have h1 : nI (o + l) ≤ nI (o + i) := nI_le (by omega) (by omega)
    have h2 : nI l ≤ nI i := nI_le (by omega) (by omega)
    exact ⟨mk, fun post J h => br_t h1 (nm_r (nI_1 s) h), fun post J h => br_t h2 (nm_r (nI_1 s) h)⟩
  | succ d ih =>
    intro i mk hi
    have h1 : ¬ nI (o + l) ≤ nI (o + i) := nI_ge (by omega) (by omega)
    have h2 : ¬ nI l ≤ nI i := nI_ge (by omega) (by omega)
    have hx : vp_in (nI s * 32 + nI (o + i)) 128 := ql_ix32 hs (by omega)
    have h0 : ¬ nI (o + i) < 0 := nI_pos (by omega)
    have h32 : ¬ 32 ≤ nI (o + i) := nI_ge (b := 32) (by omega) (by omega)
    obtain ⟨mk', hX, hY⟩ := ih (i + 1) (upd mk (nI s * 32 + nI (o + i)).toNatClampNeg 3) (by omega)
    exact ⟨mk', fun post J h => br_f h1 ⟨hx, nm_e (nm_r (nI_1 (o + i)) (hX post J h))⟩, fun post J h => br_f h2 (nm_r (nI_add o i) (br_f h0 (br_f h32 (br_t rfl ⟨hx, nm_e (nm_r (nI_1 i) (hY post J h))⟩))))⟩
theorem qm_a2 {p : Nat} (hp : p < 64) (hF : qr_F fo fl) : ∀ (d s : Nat) (mk : Nat → Int32), s + d = 4 → ∃ mk', (∀ post : SX → Prop, post (sw, cw, mp, ld, nx, lg, nw, ls, sp, bc, vi, dc, ak, wr, hg, sb, mk', kx, st, ss, fo, fl, cb, cf, co, rh, ax, go, bl, bh, dp, an, xl, xh, xc) → wX_acknowledge_50 post (nI p) sw cw mp ld nx lg nw ls sp bc vi dc ak (d + 1) (nI s) wr hg sb mk kx st ss fo fl cb cf co rh ax go bl bh dp an xl xh xc) ∧ (∀ post : SY → Prop, post (sw, cw, mp, ld, kc, nx, lg, nw, ls, sp, ac, vi, bc, dc, ak, sb, mk', wr, hg, ky, st, ss, fo, fl, cb, cf, co, rh, ay, go, bl, bh, dp, an, yl, yh, ya, yc) → wY_markFrames_3 post (nI p) 0 3 sw cw mp ld kc nx lg nw ls sp ac vi bc dc ak (d + 1) (nI s) sb mk wr hg ky st ss fo fl cb cf co rh ay go bl bh dp an yl yh ya yc) := by
  intro d
  induction d with
  | zero =>
    intro s mk hs
    have h := qm_g4 (s := s) (by omega) (by omega)
    exact ⟨mk, fun post hp => br_t h hp, fun post hp => br_t h hp⟩
  | succ d ih =>
    intro s mk hs
    have h := qm_l4 (s := s) (by omega)
    have h6 : vp_in (nI p * 4 + nI s) 256 := ql_ix4 (by omega) hp
    obtain ⟨o, l, eo, el, hol⟩ := hF (nI p * 4 + nI s).toNatClampNeg
    have ee : nI o + fl (nI p * 4 + nI s).toNatClampNeg = nI (o + l) := by rw [el, nI_add]
    obtain ⟨m1, hX1, hY1⟩ := qm_a1 (sw := sw) (cw := cw) (mp := mp) (ld := ld) (nx := nx) (lg := lg) (nw := nw) (ls := ls) (sp := sp) (bc := bc) (vi := vi) (dc := dc) (ak := ak) (wr := wr) (hg := hg) (sb := sb) (kx := kx) (st := st) (ss := ss) (fo := fo) (fl := fl) (cb := cb) (cf := cf) (co := co) (rh := rh) (ax := ax) (go := go) (bl := bl) (bh := bh) (dp := dp) (an := an) (xl := xl) (xh := xh) (xc := xc) (kc := kc) (ac := ac) (ky := ky) (ay := ay) (yl := yl) (yh := yh) (ya := ya) (yc := yc) (s := s) (by omega) hol (x1 := nI p) l 0 mk (by omega)
    obtain ⟨m2, hX2, hY2⟩ := ih (s + 1) m1 (by omega)
    exact ⟨m2, fun post hp => br_f h ⟨h6, nm_r eo ⟨h6, nm_r ee ⟨l + 1, hX1 _ _ (hX2 post hp)⟩⟩⟩, fun post hp => br_f h ⟨h6, nm_r eo ⟨h6, nm_r el ⟨l + 1, hY1 _ _ (hY2 post hp)⟩⟩⟩⟩
/-! .. and lost -/
theorem qm_20 : ¬ (2 : Int32) = 0 := by decide
theorem qm_d1 {s o l : Nat} (hs : s < 4) (hol : o + l ≤ 32) {x1 : Int32} : ∀ (d i : Nat) (mk : Nat → Int32), i + d = l → ∃ mk', (∀ (post : SX → Prop) (J : Int32 → qt_A), J (nI (s + 1)) wr hg sb mk' kx st ss fo fl cb cf co rh ax go bl bh dp an xl xh xc → wX_declareLost_52 post J x1 (nI s) (nI (o + l)) sw cw mp ld nx lg nw ls sp bc vi dc ak (d + 1) (nI (o + i)) wr hg sb mk kx st ss fo fl cb cf co rh ax go bl bh dp an xl xh xc) ∧ (∀ (post : SY → Prop) (J : Int32 → qt_B), J (nI (s + 1)) sb mk' wr hg ky st ss fo fl cb cf co rh ay go bl bh dp an yl yh ya yc → wY_markFrames_38 post J x1 2 1 (nI s) (nI o) (nI l) sw cw mp ld kc nx lg nw ls sp ac vi bc dc ak (d + 1) (nI i) sb mk wr hg ky st ss fo fl cb cf co rh ay go bl bh dp an yl yh ya yc) := by
  intro d
  induction d with
  | zero =>
    intro i mk hi
    have h1 : nI (o + l) ≤ nI (o + i) := nI_le (by omega) (by omega)
    have h2 : nI l ≤ nI i := nI_le (by omega) (by omega)
    exact ⟨mk, fun post J h => br_t h1 (nm_r (nI_1 s) h), fun post J h => br_t h2 (nm_r (nI_1 s) h)⟩
  | succ d ih =>
    intro i mk hi
    have h1 : ¬ nI (o + l) ≤ nI (o + i) := nI_ge (by omega) (by omega)
    have h2 : ¬ nI l ≤ nI i := nI_ge (by omega) (by omega)
    have hx : vp_in (nI s * 32 + nI (o + i)) 128 := ql_ix32 hs (by omega)
    have h0 : ¬ nI (o + i) < 0 := nI_pos (by omega)
    have h32 : ¬ 32 ≤ nI (o + i) := nI_ge (b := 32) (by omega) (by omega)
    by_cases z : mk (nI s * 32 + nI (o + i)).toNatClampNeg = 2
    · obtain ⟨mk', hX, hY⟩ := ih (i + 1) (upd mk (nI s * 32 + nI (o + i)).toNatClampNeg 1) (by omega)
      exact ⟨mk', fun post J h => br_f h1 ⟨hx, br_t z ⟨hx, nm_e (nm_r (nI_1 (o + i)) (hX post J h))⟩⟩, fun post J h => br_f h2 (nm_r (nI_add o i) (br_f h0 (br_f h32 (br_f qm_20 ⟨hx, br_t z ⟨hx, nm_e (nm_r (nI_1 i) (hY post J h))⟩⟩))))⟩
    · obtain ⟨mk', hX, hY⟩ := ih (i + 1) mk (by omega)
      exact ⟨mk', fun post J h => br_f h1 ⟨hx, br_f z (nm_r (nI_1 (o + i)) (hX post J h))⟩, fun post J h => br_f h2 (nm_r (nI_add o i) (br_f h0 (br_f h32 (br_f qm_20 ⟨hx, br_f z (nm_r (nI_1 i) (hY post J h))⟩))))⟩
theorem qm_d2 {p : Nat} (hp : p < 64) (hF : qr_F fo fl) : ∀ (d s : Nat) (mk : Nat → Int32), s + d = 4 → ∃ mk', (∀ post : SX → Prop, post (sw, cw, mp, ld, nx, lg, nw, ls, sp, bc, vi, dc, ak, wr, hg, sb, mk', kx, st, ss, fo, fl, cb, cf, co, rh, ax, go, bl, bh, dp, an, xl, xh, xc) → wX_declareLost_19 post (nI p) sw cw mp ld nx lg nw ls sp bc vi dc ak (d + 1) (nI s) wr hg sb mk kx st ss fo fl cb cf co rh ax go bl bh dp an xl xh xc) ∧ (∀ post : SY → Prop, post (sw, cw, mp, ld, kc, nx, lg, nw, ls, sp, ac, vi, bc, dc, ak, sb, mk', wr, hg, ky, st, ss, fo, fl, cb, cf, co, rh, ay, go, bl, bh, dp, an, yl, yh, ya, yc) → wY_markFrames_3 post (nI p) 2 1 sw cw mp ld kc nx lg nw ls sp ac vi bc dc ak (d + 1) (nI s) sb mk wr hg ky st ss fo fl cb cf co rh ay go bl bh dp an yl yh ya yc) := by
  intro d
  induction d with
  | zero =>
    intro s mk hs
    have h := qm_g4 (s := s) (by omega) (by omega)
    exact ⟨mk, fun post hp => br_t h hp, fun post hp => br_t h hp⟩
  | succ d ih =>
    intro s mk hs
    have h := qm_l4 (s := s) (by omega)
    have h6 : vp_in (nI p * 4 + nI s) 256 := ql_ix4 (by omega) hp
    obtain ⟨o, l, eo, el, hol⟩ := hF (nI p * 4 + nI s).toNatClampNeg
    have ee : nI o + fl (nI p * 4 + nI s).toNatClampNeg = nI (o + l) := by rw [el, nI_add]
    obtain ⟨m1, hX1, hY1⟩ := qm_d1 (sw := sw) (cw := cw) (mp := mp) (ld := ld) (nx := nx) (lg := lg) (nw := nw) (ls := ls) (sp := sp) (bc := bc) (vi := vi) (dc := dc) (ak := ak) (wr := wr) (hg := hg) (sb := sb) (kx := kx) (st := st) (ss := ss) (fo := fo) (fl := fl) (cb := cb) (cf := cf) (co := co) (rh := rh) (ax := ax) (go := go) (bl := bl) (bh := bh) (dp := dp) (an := an) (xl := xl) (xh := xh) (xc := xc) (kc := kc) (ac := ac) (ky := ky) (ay := ay) (yl := yl) (yh := yh) (ya := ya) (yc := yc) (s := s) (by omega) hol (x1 := nI p) l 0 mk (by omega)
    obtain ⟨m2, hX2, hY2⟩ := ih (s + 1) m1 (by omega)
    exact ⟨m2, fun post hp => br_f h ⟨h6, nm_r eo ⟨h6, nm_r ee ⟨l + 1, hX1 _ _ (hX2 post hp)⟩⟩⟩, fun post hp => br_f h ⟨h6, nm_r eo ⟨h6, nm_r el ⟨l + 1, hY1 _ _ (hY2 post hp)⟩⟩⟩⟩
/-! loss detection -/
theorem qm_dl {L : Nat} (hL : L ≤ 63) (hF : qr_F fo fl) : ∀ (d p : Nat) (ss mk : Nat → Int32) (ls : Int32), p + d = L → ∃ ss' mk' ls', (∀ post : SX → Prop, post (sw, cw, mp, ld, nx, nI L, nw, ls', sp, bc, vi, dc, ak, wr, hg, sb, mk', kx, st, ss', fo, fl, cb, cf, co, rh, ax, go, bl, bh, dp, an, xl, xh, xc) → wX_detectLoss_2 post (d + 1) (nI p) sw cw mp ld nx (nI L) nw ls sp bc vi dc ak wr hg sb mk kx st ss fo fl cb cf co rh ax go bl bh dp an xl xh xc) ∧ (∀ post : SY → Prop, post (sw, cw, mp, ld, kc, nx, nI L, nw, ls', sp, ac, vi, bc, dc, ak, sb, mk', wr, hg, ky, st, ss', fo, fl, cb, cf, co, rh, ay, go, bl, bh, dp, an, yl, yh, ya, yc) → wY_detect_10 post (d + 1) (nI p) sw cw mp ld kc nx (nI L) nw ls sp ac vi bc dc ak sb mk wr hg ky st ss fo fl cb cf co rh ay go bl bh dp an yl yh ya yc) := by
  intro d
  induction d with
  | zero =>
    intro p ss mk ls hp
    have h : nI L ≤ nI p := nI_le (by omega) (by omega)
    exact ⟨ss, mk, ls, fun post hp => br_t h hp, fun post hp => br_t h hp⟩
  | succ d ih =>
    intro p ss mk ls hp
    have h : ¬ nI L ≤ nI p := nI_ge (by omega) (by omega)
    have h64 : ¬ 64 ≤ nI p := nI_ge (b := 64) (by omega) (by omega)
    have hi : vp_in (nI p) 64 := vp_in_nI (by omega) (by omega)
    by_cases Z : ss (nI p).toNatClampNeg = 1
    · obtain ⟨m1, hX1, hY1⟩ := qm_d2 (sw := sw) (cw := cw) (mp := mp) (ld := ld) (nx := nx) (lg := nI L) (nw := nw) (ls := ls + 1) (sp := sp) (bc := bc) (vi := vi) (dc := dc) (ak := ak) (wr := wr) (hg := hg) (sb := sb) (kx := kx) (st := st) (ss := upd ss (nI p).toNatClampNeg 3) (fo := fo) (fl := fl) (cb := cb) (cf := cf) (co := co) (rh := rh) (ax := ax) (go := go) (bl := bl) (bh := bh) (dp := dp) (an := an) (xl := xl) (xh := xh) (xc := xc) (kc := kc) (ac := ac) (ky := ky) (ay := ay) (yl := yl) (yh := yh) (ya := ya) (yc := yc) (p := p) (by omega) hF 4 0 mk rfl
      obtain ⟨s2, m2, l2, hX2, hY2⟩ := ih (p + 1) (upd ss (nI p).toNatClampNeg 3) m1 (ls + 1) (by omega)
      by_cases a : 3 ≤ nI L - nI p
      · exact ⟨s2, m2, l2, fun post hp => br_f h (br_t a ⟨hi, br_t Z (br_f qa_10 ⟨hi, nm_e (nm_e ⟨5, hX1 _ (nm_r (nI_1 p) (hX2 post hp))⟩)⟩)⟩), fun post hp => br_f h (br_f h64 ⟨hi, br_t Z (br_t a ⟨hi, nm_e (nm_e ⟨5, hY1 _ (nm_r (nI_1 p) (hY2 post hp))⟩)⟩)⟩)⟩
      · by_cases b : nw - st (nI p).toNatClampNeg < ld
        · obtain ⟨s2, m2, l2, hX2, hY2⟩ := ih (p + 1) ss mk ls (by omega)
          exact ⟨s2, m2, l2, fun post hp => br_f h (br_f a ⟨hi, br_t b ⟨hi, br_t Z (br_t rfl (nm_r (nI_1 p) (hX2 post hp)))⟩⟩), fun post hp => br_f h (br_f h64 ⟨hi, br_t Z (br_f a ⟨hi, br_t b (nm_r (nI_1 p) (hY2 post hp))⟩)⟩)⟩
        · exact ⟨s2, m2, l2, fun post hp => br_f h (br_f a ⟨hi, br_f b ⟨hi, br_t Z (br_f qa_10 ⟨hi, nm_e (nm_e ⟨5, hX1 _ (nm_r (nI_1 p) (hX2 post hp))⟩)⟩)⟩⟩), fun post hp => br_f h (br_f h64 ⟨hi, br_t Z (br_f a ⟨hi, br_f b ⟨hi, nm_e (nm_e ⟨5, hY1 _ (nm_r (nI_1 p) (hY2 post hp))⟩)⟩⟩)⟩)⟩
    · obtain ⟨s2, m2, l2, hX2, hY2⟩ := ih (p + 1) ss mk ls (by omega)
      refine ⟨s2, m2, l2, fun post hp => ?_, fun post hp => br_f h (br_f h64 ⟨hi, br_f Z (nm_r (nI_1 p) (hY2 post hp))⟩)⟩
      by_cases a : 3 ≤ nI L - nI p
      · exact br_f h (br_t a ⟨hi, br_f Z (nm_r (nI_1 p) (hX2 post hp))⟩)
      · by_cases b : nw - st (nI p).toNatClampNeg < ld
        · exact br_f h (br_f a ⟨hi, br_t b ⟨hi, br_f Z (nm_r (nI_1 p) (hX2 post hp))⟩⟩)
        · exact br_f h (br_f a ⟨hi, br_f b ⟨hi, br_f Z (nm_r (nI_1 p) (hX2 post hp))⟩⟩)
theorem qm_det (hlg : lg = -1 ∨ ∃ L, L ≤ 63 ∧ lg = nI L) (hF : qr_F fo fl) : ∃ ss' mk' ls', (∀ post : SX → Prop, post (sw, cw, mp, ld, nx, lg, nw, ls', sp, bc, vi, dc, ak, wr, hg, sb, mk', kx, st, ss', fo, fl, cb, cf, co, rh, ax, go, bl, bh, dp, an, xl, xh, xc) → wpX_detectLoss post (sw, cw, mp, ld, nx, lg, nw, ls, sp, bc, vi, dc, ak, wr, hg, sb, mk, kx, st, ss, fo, fl, cb, cf, co, rh, ax, go, bl, bh, dp, an, xl, xh, xc)) ∧ (∀ post : SY → Prop, post (sw, cw, mp, ld, kc, nx, lg, nw, ls', sp, ac, vi, bc, dc, ak, sb, mk', wr, hg, ky, st, ss', fo, fl, cb, cf, co, rh, ay, go, bl, bh, dp, an, yl, yh, ya, yc) → wpY_detect post (sw, cw, mp, ld, kc, nx, lg, nw, ls, sp, ac, vi, bc, dc, ak, sb, mk, wr, hg, ky, st, ss, fo, fl, cb, cf, co, rh, ay, go, bl, bh, dp, an, yl, yh, ya, yc)) := by
  rcases hlg with rfl | ⟨L, hL, rfl⟩
  · exact ⟨ss, mk, ls, fun post hp => ⟨1, br_t (by decide) hp⟩, fun post hp => br_f (by decide) hp⟩
  · obtain ⟨s2, m2, l2, hX, hY⟩ := qm_dl (sw := sw) (cw := cw) (mp := mp) (ld := ld) (nx := nx) (nw := nw) (sp := sp) (bc := bc) (vi := vi) (dc := dc) (ak := ak) (wr := wr) (hg := hg) (sb := sb) (kx := kx) (st := st) (fo := fo) (fl := fl) (cb := cb) (cf := cf) (co := co) (rh := rh) (ax := ax) (go := go) (bl := bl) (bh := bh) (dp := dp) (an := an) (xl := xl) (xh := xh) (xc := xc) (kc := kc) (ac := ac) (ky := ky) (ay := ay) (yl := yl) (yh := yh) (ya := ya) (yc := yc) hL hF L 0 ss mk ls (by omega)
    exact ⟨s2, m2, l2, fun post hp => ⟨L + 1, hX post hp⟩, fun post hp => br_t (nI_pos' (by omega)) ⟨L + 1, hY post hp⟩⟩

theorem i_vc_tick {k : Nat} {u : SX} {v : SY} (I : i_Rel k u v) (hk : k + 3 ≤ 1540) (v1 : Int32) : wpX_tick (fun r u' => wpY_tick (fun r' v' => r' = r ∧ i_Rel (k + 3) u' v') v v1) u v1 := by
  obtain ⟨M, N, C, D, A, sw, cw, ld, lg, nw, ls, sp, vi, kc, ac, wr, hg, sb, mk, kx, st, ss, fo, fl, cb, cf, co, rh, ax, go, bl, bh, dp, an, xl, xh, xc, ky, ay, yl, yh, ya, yc, rfl, rfl, hI⟩ := I
  obtain ⟨⟨hM1, hM8, hN, hC, hD, hA⟩, hlg, hwr, hco, hrh, hcf, hgo, hF, hdp, hbl, hbh, han, hxl, hxh, hkx, hax, hK, hR⟩ := id hI
  by_cases h1 : v1 < 1
  · exact br_t h1 (br_t h1 ⟨rfl, qr_mk hI⟩)
  · by_cases h2 : v1 ≤ 1000
    · obtain ⟨s2, m2, l2, hX, hY⟩ := qm_det (sw := sw) (cw := cw) (mp := nI M) (ld := ld) (nx := nI N) (lg := lg) (nw := nw + v1) (ls := ls) (sp := sp) (bc := nI C) (vi := vi) (dc := nI D) (ak := nI A) (wr := wr) (hg := hg) (sb := sb) (mk := mk) (kx := kx) (st := st) (ss := ss) (fo := fo) (fl := fl) (cb := cb) (cf := cf) (co := co) (rh := rh) (ax := ax) (go := go) (bl := bl) (bh := bh) (dp := dp) (an := an) (xl := xl) (xh := xh) (xc := xc) (kc := kc) (ac := ac) (ky := ky) (ay := ay) (yl := yl) (yh := yh) (ya := ya) (yc := yc) hlg hF
      exact br_f h1 (br_t h2 (nm_e (hX _ (br_f h1 (br_t h2 (nm_e (hY _ ⟨rfl, qr_mk hI⟩)))))))
    · exact br_f h1 (br_f h2 (br_f h1 (br_f h2 ⟨rfl, qr_mk hI⟩)))
end QM
end
section
section QV
variable {sw cw mp ld nx lg nw ls sp bc vi dc ak kc ac : Int32} {wr hg sb mk kx st ss fo fl cb cf co rh ax go bl bh dp an xl xh xc ky ay yl yh ya yc : Nat → Int32}
def qv_sm (a : Nat → Int32) : Int32 := 0 + a (0 : Int32).toNatClampNeg + a (1 : Int32).toNatClampNeg + a (2 : Int32).toNatClampNeg + a (3 : Int32).toNatClampNeg
theorem qv_sX1 {post : Int32 → Prop} (h : post (qv_sm rh)) : wpX_sumOverStreams__receivedHigh post (sw, cw, mp, ld, nx, lg, nw, ls, sp, bc, vi, dc, ak, wr, hg, sb, mk, kx, st, ss, fo, fl, cb, cf, co, rh, ax, go, bl, bh, dp, an, xl, xh, xc) := ⟨5, (br_f (by decide) ⟨vp_in_iff.mpr (by decide), nm_e (nm_r (e' := 1) (by decide) (br_f (by decide) ⟨vp_in_iff.mpr (by decide), nm_e (nm_r (e' := 2) (by decide) (br_f (by decide) ⟨vp_in_iff.mpr (by decide), nm_e (nm_r (e' := 3) (by decide) (br_f (by decide) ⟨vp_in_iff.mpr (by decide), nm_e (nm_r (e' := 4) (by decide) (br_t (by decide) h))⟩))⟩))⟩))⟩)⟩
theorem qv_sX2 {post : Int32 → Prop} (h : post (qv_sm co)) : wpX_sumOverStreams__consumed post (sw, cw, mp, ld, nx, lg, nw, ls, sp, bc, vi, dc, ak, wr, hg, sb, mk, kx, st, ss, fo, fl, cb, cf, co, rh, ax, go, bl, bh, dp, an, xl, xh, xc) := ⟨5, (br_f (by decide) ⟨vp_in_iff.mpr (by decide), nm_e (nm_r (e' := 1) (by decide) (br_f (by decide) ⟨vp_in_iff.mpr (by decide), nm_e (nm_r (e' := 2) (by decide) (br_f (by decide) ⟨vp_in_iff.mpr (by decide), nm_e (nm_r (e' := 3) (by decide) (br_f (by decide) ⟨vp_in_iff.mpr (by decide), nm_e (nm_r (e' := 4) (by decide) (br_t (by decide) h))⟩))⟩))⟩))⟩)⟩
theorem qv_sX3 {post : Int32 → Prop} (h : post (qv_sm hg)) : wpX_sumOverStreams__sentHigh post (sw, cw, mp, ld, nx, lg, nw, ls, sp, bc, vi, dc, ak, wr, hg, sb, mk, kx, st, ss, fo, fl, cb, cf, co, rh, ax, go, bl, bh, dp, an, xl, xh, xc) := ⟨5, (br_f (by decide) ⟨vp_in_iff.mpr (by decide), nm_e (nm_r (e' := 1) (by decide) (br_f (by decide) ⟨vp_in_iff.mpr (by decide), nm_e (nm_r (e' := 2) (by decide) (br_f (by decide) ⟨vp_in_iff.mpr (by decide), nm_e (nm_r (e' := 3) (by decide) (br_f (by decide) ⟨vp_in_iff.mpr (by decide), nm_e (nm_r (e' := 4) (by decide) (br_t (by decide) h))⟩))⟩))⟩))⟩)⟩
theorem qv_sY1 {post : Int32 → Prop} (h : post (qv_sm rh)) : wpY_rSum post (sw, cw, mp, ld, kc, nx, lg, nw, ls, sp, ac, vi, bc, dc, ak, sb, mk, wr, hg, ky, st, ss, fo, fl, cb, cf, co, rh, ay, go, bl, bh, dp, an, yl, yh, ya, yc) := ⟨5, (br_f (by decide) ⟨vp_in_iff.mpr (by decide), nm_e (nm_r (e' := 1) (by decide) (br_f (by decide) ⟨vp_in_iff.mpr (by decide), nm_e (nm_r (e' := 2) (by decide) (br_f (by decide) ⟨vp_in_iff.mpr (by decide), nm_e (nm_r (e' := 3) (by decide) (br_f (by decide) ⟨vp_in_iff.mpr (by decide), nm_e (nm_r (e' := 4) (by decide) (br_t (by decide) h))⟩))⟩))⟩))⟩)⟩
theorem qv_sY3 {post : Int32 → Prop} (h : post (qv_sm hg)) : wpY_usedSum post (sw, cw, mp, ld, kc, nx, lg, nw, ls, sp, ac, vi, bc, dc, ak, sb, mk, wr, hg, ky, st, ss, fo, fl, cb, cf, co, rh, ay, go, bl, bh, dp, an, yl, yh, ya, yc) := ⟨5, (br_f (by decide) ⟨vp_in_iff.mpr (by decide), nm_e (nm_r (e' := 1) (by decide) (br_f (by decide) ⟨vp_in_iff.mpr (by decide), nm_e (nm_r (e' := 2) (by decide) (br_f (by decide) ⟨vp_in_iff.mpr (by decide), nm_e (nm_r (e' := 3) (by decide) (br_f (by decide) ⟨vp_in_iff.mpr (by decide), nm_e (nm_r (e' := 4) (by decide) (br_t (by decide) h))⟩))⟩))⟩))⟩)⟩
theorem qv_gr {post : Int32 → Prop} {a b : Int32} (h : post (qa_mx a b)) : wpX_greater post a b := by
  by_cases z : a ≤ b
  · rw [qa_mx3 z] at h; exact br_t z h
  · rw [qa_mx4 z] at h; exact br_f z h
theorem qv_le {post : Int32 → Prop} {a b : Int32} (h : post (qa_mn a b)) : wpX_lesser post a b := by
  by_cases z : b ≤ a
  · rw [qa_mn3 z] at h; exact br_t z h
  · rw [qa_mn4 z] at h; exact br_f z h
theorem qv_g {x q : Nat} (hx : x < 32) (hq : q ≤ 32) : nI x + 1 - nI q ≤ 0 ↔ nI x < nI q := by
  rw [nI_1, Int32.le_iff_toInt_le, pk_sub_toInt (by omega) (by omega), nI_ltI (by omega) (by omega), show (0 : Int32).toInt = 0 from by decide]
  omega
theorem qv_cl {s : Nat} (hs : s < 4) : (nI s).toNatClampNeg = s := nI_clamp (by omega)
/-- one byte at the receiver -/
theorem qv_b {s o i l n : Nat} (hs : s < 4) (hi : i < l) (hol : o + l ≤ 32) (hrh : qa_B rh 32) (hcf : qa_B cf 1) (hax : qr_C ax ay ac) : ∃ vi' cb' cf' rh', qa_B rh' 32 ∧ qa_B cf' 1 ∧ (∀ post : SX → Prop, post (sw, cw, mp, ld, nx, lg, nw, ls, sp, bc, vi', dc, ak, wr, hg, sb, mk, kx, st, ss, fo, fl, cb', cf', co, rh', ax, go, bl, bh, dp, an, xl, xh, xc) → wpX_receiveByte post (sw, cw, mp, ld, nx, lg, nw, ls, sp, bc, vi, dc, ak, wr, hg, sb, mk, kx, st, ss, fo, fl, cb, cf, co, rh, ax, go, bl, bh, dp, an, xl, xh, xc) (nI s) (nI (o + i))) ∧ (∀ (post : SY → Prop) (J : Int32 → Int32 → qt_B) (x1 : Int32), wY_dataAtReceiver_40 post J x1 (nI s) (nI o) (nI l) sw cw mp ld kc nx lg nw ls sp ac bc dc ak n (nI (i + 1)) vi' sb mk wr hg ky st ss fo fl cb' cf' co rh' ay go bl bh dp an yl yh ya yc → wY_dataAtReceiver_40 post J x1 (nI s) (nI o) (nI l) sw cw mp ld kc nx lg nw ls sp ac bc dc ak (n + 1) (nI i) vi sb mk wr hg ky st ss fo fl cb cf co rh ay go bl bh dp an yl yh ya yc) := by
  have h4 : vp_in (nI s) 4 := vp_in_nI hs (by omega)
  have h5 : vp_in (nI s) 5 := vp_in_nI (by omega) (by omega)
  have hx : vp_in (nI s * 32 + nI (o + i)) 128 := ql_ix32 hs (by omega)
  have h0 : ¬ nI (o + i) < 0 := nI_pos (by omega)
  have h32 : nI (o + i) < 32 := nI_lt (b := 32) (by omega) (by omega)
  have hli : ¬ nI l ≤ nI i := nI_ge hi (by omega)
  have e : ax (nI s).toNatClampNeg = ay (nI s).toNatClampNeg := by rw [qv_cl hs]; exact hax.1 s hs
  have e4 : ax 4 = ac := hax.2
  obtain ⟨q, hq, eq⟩ := hrh (nI s).toNatClampNeg
  have G : nI (o + i) + 1 - rh (nI s).toNatClampNeg ≤ 0 ↔ nI (o + i) < rh (nI s).toNatClampNeg := by
    rw [eq]; exact qv_g (by omega) hq
  by_cases P : nI (o + i) < ax (nI s).toNatClampNeg
  · have P' : ¬ ay (nI s).toNatClampNeg ≤ nI (o + i) := by rw [← e]; exact Int32.not_le.mpr P
    have V : (∃ r, r = 0 ∧ ∀ post : Int32 → Prop, post r → wpX_violatesCredit post (sw, cw, mp, ld, nx, lg, nw, ls, sp, bc, vi, dc, ak, wr, hg, sb, mk, kx, st, ss, fo, fl, cb, cf, co, rh, ax, go, bl, bh, dp, an, xl, xh, xc) (nI s) (nI (o + i))) → ((nI (o + i) < rh (nI s).toNatClampNeg) ∨ (¬ nI (o + i) < rh (nI s).toNatClampNeg ∧ qv_sm rh + (nI (o + i) + 1 - rh (nI s).toNatClampNeg) ≤ ac)) → ∃ vi' cb' cf' rh', qa_B rh' 32 ∧ qa_B cf' 1 ∧ (∀ post : SX → Prop, post (sw, cw, mp, ld, nx, lg, nw, ls, sp, bc, vi', dc, ak, wr, hg, sb, mk, kx, st, ss, fo, fl, cb', cf', co, rh', ax, go, bl, bh, dp, an, xl, xh, xc) → wpX_receiveByte post (sw, cw, mp, ld, nx, lg, nw, ls, sp, bc, vi, dc, ak, wr, hg, sb, mk, kx, st, ss, fo, fl, cb, cf, co, rh, ax, go, bl, bh, dp, an, xl, xh, xc) (nI s) (nI (o + i))) ∧ (∀ (post : SY → Prop) (J : Int32 → Int32 → qt_B) (x1 : Int32), wY_dataAtReceiver_40 post J x1 (nI s) (nI o) (nI l) sw cw mp ld kc nx lg nw ls sp ac bc dc ak n (nI (i + 1)) vi' sb mk wr hg ky st ss fo fl cb' cf' co rh' ay go bl bh dp an yl yh ya yc → wY_dataAtReceiver_40 post J x1 (nI s) (nI o) (nI l) sw cw mp ld kc nx lg nw ls sp ac bc dc ak (n + 1) (nI i) vi sb mk wr hg ky st ss fo fl cb cf co rh ay go bl bh dp an yl yh ya yc) := by
      rintro ⟨r, rfl, hV⟩ hH
      have hrh' : qa_B (upd rh (nI s).toNatClampNeg (qa_mx (rh (nI s).toNatClampNeg) (nI (o + i) + 1))) 32 := by
        refine qa_Bx hrh ?_
        by_cases z : rh (nI s).toNatClampNeg ≤ nI (o + i) + 1
        · rw [qa_mx3 z]; exact ⟨o + i + 1, by omega, nI_1 _⟩
        · rw [qa_mx4 z]; exact ⟨q, hq, eq⟩
      -- Y's way to its row 151
      have Y151 : ∀ (post : SY → Prop) (J : Int32 → Int32 → qt_B) (x1 : Int32), wY_dataAtReceiver_151 post J (wY_dataAtReceiver_40 post J x1 (nI s) (nI o) (nI l) sw cw mp ld kc nx lg nw ls sp ac bc dc ak n) x1 (nI s) (nI o) (nI l) (nI i) (nI (o + i)) sw cw mp ld kc nx lg nw ls sp ac vi bc dc ak sb mk wr hg ky st ss fo fl cb cf co (upd rh (nI s).toNatClampNeg (qa_mx (rh (nI s).toNatClampNeg) (nI (o + i) + 1))) ay go bl bh dp an yl yh ya yc → wY_dataAtReceiver_40 post J x1 (nI s) (nI o) (nI l) sw cw mp ld kc nx lg nw ls sp ac bc dc ak (n + 1) (nI i) vi sb mk wr hg ky st ss fo fl cb cf co rh ay go bl bh dp an yl yh ya yc := by
        intro post J x1 h
        have Y130 : wY_dataAtReceiver_130 post J (wY_dataAtReceiver_40 post J x1 (nI s) (nI o) (nI l) sw cw mp ld kc nx lg nw ls sp ac bc dc ak n) x1 (nI s) (nI o) (nI l) (nI i) (nI (o + i)) sw cw mp ld kc nx lg nw ls sp ac vi bc dc ak sb mk wr hg ky st ss fo fl cb cf co rh ay go bl bh dp an yl yh ya yc := by
          by_cases z : nI (o + i) < rh (nI s).toNatClampNeg
          · have em : qa_mx (rh (nI s).toNatClampNeg) (nI (o + i) + 1) = rh (nI s).toNatClampNeg := by
              have z2 := z
              rw [eq, nI_ltI (by omega) (by omega)] at z2
              refine qa_mx2 ?_
              rw [eq, nI_1, nI_ltI (by omega) (by omega)]
              omega
            rw [qa_id em] at h
            exact ⟨h4, br_t z h⟩
          · have em : qa_mx (rh (nI s).toNatClampNeg) (nI (o + i) + 1) = nI (o + i) + 1 := by
              have z2 := z
              rw [eq, nI_ltI (by omega) (by omega)] at z2
              refine qa_mx1 ?_
              rw [eq, nI_1, nI_ltI (by omega) (by omega)]
              omega
            rw [em] at h
            exact ⟨h4, br_f z ⟨h4, nm_e h⟩⟩
        rcases hH with H | ⟨H1, H2⟩
        · exact br_f hli (nm_r (nI_add o i) (br_f h0 (br_t h32 (qv_sY1 ⟨h4, br_f P' ⟨h4, br_t H Y130⟩⟩))))
        · exact br_f hli (nm_r (nI_add o i) (br_f h0 (br_t h32 (qv_sY1 ⟨h4, br_f P' ⟨h4, br_f H1 ⟨h4, br_t H2 Y130⟩⟩⟩))))
      by_cases f : cf (nI s * 32 + nI (o + i)).toNatClampNeg = 0
      · refine ⟨vi, upd cb (nI s * 32 + nI (o + i)).toNatClampNeg (sb (nI s * 32 + nI (o + i)).toNatClampNeg), upd cf (nI s * 32 + nI (o + i)).toNatClampNeg (vp_nar .boolean 1), _, hrh', qa_Bx hcf ⟨1, by omega, qa_vb1⟩, fun post hp => by unfold wpX_receiveByte; exact hV _ (br_t rfl ⟨h4, qv_gr ⟨h4, nm_e (nm_e ⟨hx, br_t f ⟨hx, hx, nm_e ⟨hx, nm_e hp⟩⟩⟩)⟩⟩), fun post J x1 hp => Y151 post J x1 ⟨hx, br_t f ⟨hx, hx, nm_e ⟨hx, nm_e (nm_r (nI_1 i) hp)⟩⟩⟩⟩
      · refine ⟨vi, cb, cf, _, hrh', hcf, fun post hp => by unfold wpX_receiveByte; exact hV _ (br_t rfl ⟨h4, qv_gr ⟨h4, nm_e (nm_e ⟨hx, br_f f hp⟩)⟩⟩), fun post J x1 hp => Y151 post J x1 ⟨hx, br_f f (nm_r (nI_1 i) hp)⟩⟩
    by_cases R : nI (o + i) < rh (nI s).toNatClampNeg
    · exact V ⟨0, rfl, fun post hp => ⟨h5, br_t P ⟨h4, nm_e (br_t (G.mpr R) hp)⟩⟩⟩ (Or.inl R)
    · have R' := fun z => R (G.mp z)
      by_cases H : qv_sm rh + (nI (o + i) + 1 - rh (nI s).toNatClampNeg) ≤ ac
      · exact V ⟨0, rfl, fun post hp => ⟨h5, br_t P ⟨h4, nm_e (br_f R' (qv_sX1 (br_t (by rw [e4]; exact H) hp)))⟩⟩⟩ (Or.inr ⟨R, H⟩)
      · exact ⟨vi + 1, cb, cf, rh, hrh, hcf, fun post hp => ⟨h5, br_t P ⟨h4, nm_e (br_f R' (qv_sX1 (br_f (by rw [e4]; exact H) (br_f qa_10 (nm_e hp)))))⟩⟩, fun post J x1 hp => br_f hli (nm_r (nI_add o i) (br_f h0 (br_t h32 (qv_sY1 ⟨h4, br_f P' ⟨h4, br_f R ⟨h4, br_f H (nm_e (nm_r (nI_1 i) hp))⟩⟩⟩))))⟩
  · have P' : ay (nI s).toNatClampNeg ≤ nI (o + i) := by rw [← e]; exact Int32.not_lt.mp P
    exact ⟨vi + 1, cb, cf, rh, hrh, hcf, fun post hp => ⟨h5, br_f P (br_f qa_10 (nm_e hp))⟩, fun post J x1 hp => br_f hli (nm_r (nI_add o i) (br_f h0 (br_t h32 (qv_sY1 ⟨h4, br_t P' (nm_e (nm_r (nI_1 i) hp))⟩))))⟩
/-- a frame's bytes -/
theorem qv_f {s o l : Nat} (hs : s < 4) (hol : o + l ≤ 32) (hax : qr_C ax ay ac) : ∀ (d i : Nat) (vi : Int32) (cb cf rh : Nat → Int32), i + d = l → qa_B rh 32 → qa_B cf 1 → ∃ vi' cb' cf' rh', qa_B rh' 32 ∧ qa_B cf' 1 ∧ (∀ (post : SX → Prop) (J : qt_X) (x1 : Int32), J (nI (s + 1)) sw cw mp ld nx lg nw ls sp bc vi' dc ak wr hg sb mk kx st ss fo fl cb' cf' co rh' ax go bl bh dp an xl xh xc → wX_receivePacket_42 post J x1 (nI s) (nI (o + l)) (d + 1) (nI (o + i)) sw cw mp ld nx lg nw ls sp bc vi dc ak wr hg sb mk kx st ss fo fl cb cf co rh ax go bl bh dp an xl xh xc) ∧ (∀ (post : SY → Prop) (J : Int32 → Int32 → qt_B) (x1 : Int32), J (nI (s + 1)) vi' sb mk wr hg ky st ss fo fl cb' cf' co rh' ay go bl bh dp an yl yh ya yc → wY_dataAtReceiver_40 post J x1 (nI s) (nI o) (nI l) sw cw mp ld kc nx lg nw ls sp ac bc dc ak (d + 1) (nI i) vi sb mk wr hg ky st ss fo fl cb cf co rh ay go bl bh dp an yl yh ya yc) := by
  intro d
  induction d with
  | zero =>
    intro i vi cb cf rh hi hrh hcf
    have h1 : nI (o + l) ≤ nI (o + i) := nI_le (by omega) (by omega)
    have h2 : nI l ≤ nI i := nI_le (by omega) (by omega)
    exact ⟨vi, cb, cf, rh, hrh, hcf, fun post J x1 h => br_t h1 (nm_r (nI_1 s) h), fun post J x1 h => br_t h2 (nm_r (nI_1 s) h)⟩
  | succ d ih =>
    intro i vi cb cf rh hi hrh hcf
    have h1 : ¬ nI (o + l) ≤ nI (o + i) := nI_ge (by omega) (by omega)
    obtain ⟨v1, c1, f1, r1, hr1, hf1, hX1, hY1⟩ := qv_b (sw := sw) (cw := cw) (mp := mp) (ld := ld) (nx := nx) (lg := lg) (nw := nw) (ls := ls) (sp := sp) (bc := bc) (vi := vi) (dc := dc) (ak := ak) (wr := wr) (hg := hg) (sb := sb) (mk := mk) (kx := kx) (st := st) (ss := ss) (fo := fo) (fl := fl) (cb := cb) (cf := cf) (co := co) (rh := rh) (ax := ax) (go := go) (bl := bl) (bh := bh) (dp := dp) (an := an) (xl := xl) (xh := xh) (xc := xc) (kc := kc) (ac := ac) (ky := ky) (ay := ay) (yl := yl) (yh := yh) (ya := ya) (yc := yc) (n := d + 1) hs (i := i) (by omega) hol hrh hcf hax
    obtain ⟨v2, c2, f2, r2, hr2, hf2, hX2, hY2⟩ := ih (i + 1) v1 c1 f1 r1 (by omega) hr1 hf1
    exact ⟨v2, c2, f2, r2, hr2, hf2, fun post J x1 h => br_f h1 (hX1 _ (nm_r (nI_1 (o + i)) (hX2 post J x1 h))), fun post J x1 h => hY1 post J x1 (hY2 post J x1 h)⟩
theorem qv_p {p : Nat} (hp : p < 64) (hF : qr_F fo fl) (hax : qr_C ax ay ac) : ∀ (d s : Nat) (vi : Int32) (cb cf rh : Nat → Int32), s + d = 4 → qa_B rh 32 → qa_B cf 1 → ∃ vi' cb' cf' rh', qa_B rh' 32 ∧ qa_B cf' 1 ∧ (∀ post : SX → Prop, post (sw, cw, mp, ld, nx, lg, nw, ls, sp, bc, vi', dc, ak, wr, hg, sb, mk, kx, st, ss, fo, fl, cb', cf', co, rh', ax, go, bl, bh, dp, an, xl, xh, xc) → wX_receivePacket_9 post (nI p) (d + 1) (nI s) sw cw mp ld nx lg nw ls sp bc vi dc ak wr hg sb mk kx st ss fo fl cb cf co rh ax go bl bh dp an xl xh xc) ∧ (∀ post : SY → Prop, post (sw, cw, mp, ld, kc, nx, lg, nw, ls, sp, ac, vi', bc, dc, ak, sb, mk, wr, hg, ky, st, ss, fo, fl, cb', cf', co, rh', ay, go, bl, bh, dp, an, yl, yh, ya, yc) → wY_dataAtReceiver_9 post (nI p) sw cw mp ld kc nx lg nw ls sp ac bc dc ak (d + 1) (nI s) vi sb mk wr hg ky st ss fo fl cb cf co rh ay go bl bh dp an yl yh ya yc) := by
  intro d
  induction d with
  | zero =>
    intro s vi cb cf rh hs hrh hcf
    have h := qm_g4 (s := s) (by omega) (by omega)
    exact ⟨vi, cb, cf, rh, hrh, hcf, fun post hp => br_t h hp, fun post hp => br_t h hp⟩
  | succ d ih =>
    intro s vi cb cf rh hs hrh hcf
    have h := qm_l4 (s := s) (by omega)
    have h6 : vp_in (nI p * 4 + nI s) 256 := ql_ix4 (by omega) hp
    obtain ⟨o, l, eo, el, hol⟩ := hF (nI p * 4 + nI s).toNatClampNeg
    have ee : nI o + fl (nI p * 4 + nI s).toNatClampNeg = nI (o + l) := by rw [el, nI_add]
    obtain ⟨v1, c1, f1, r1, hr1, hf1, hX1, hY1⟩ := qv_f (sw := sw) (cw := cw) (mp := mp) (ld := ld) (nx := nx) (lg := lg) (nw := nw) (ls := ls) (sp := sp) (bc := bc) (dc := dc) (ak := ak) (wr := wr) (hg := hg) (sb := sb) (mk := mk) (kx := kx) (st := st) (ss := ss) (fo := fo) (fl := fl) (co := co) (ax := ax) (go := go) (bl := bl) (bh := bh) (dp := dp) (an := an) (xl := xl) (xh := xh) (xc := xc) (kc := kc) (ac := ac) (ky := ky) (ay := ay) (yl := yl) (yh := yh) (ya := ya) (yc := yc) (s := s) (by omega) hol hax l 0 vi cb cf rh (by omega) hrh hcf
    obtain ⟨v2, c2, f2, r2, hr2, hf2, hX2, hY2⟩ := ih (s + 1) v1 c1 f1 r1 (by omega) hr1 hf1
    exact ⟨v2, c2, f2, r2, hr2, hf2, fun post hp => br_f h ⟨h6, nm_r eo ⟨h6, nm_r ee ⟨l + 1, hX1 _ _ _ (hX2 post hp)⟩⟩⟩, fun post hp => br_f h ⟨h6, nm_r eo ⟨h6, nm_r el ⟨l + 1, hY1 _ _ _ (hY2 post hp)⟩⟩⟩⟩
theorem qv_rcv {p : Nat} (hp : p < 64) (hF : qr_F fo fl) (hax : qr_C ax ay ac) (hrh : qa_B rh 32) (hcf : qa_B cf 1) (hgo : qa_B go 1) : ∃ vi' cb' cf' rh' go', qa_B rh' 32 ∧ qa_B cf' 1 ∧ qa_B go' 1 ∧ (∀ post : SX → Prop, post (sw, cw, mp, ld, nx, lg, nw, ls, sp, bc, vi', dc, ak, wr, hg, sb, mk, kx, st, ss, fo, fl, cb', cf', co, rh', ax, go', bl, bh, dp, an, xl, xh, xc) → wpX_receivePacket post (sw, cw, mp, ld, nx, lg, nw, ls, sp, bc, vi, dc, ak, wr, hg, sb, mk, kx, st, ss, fo, fl, cb, cf, co, rh, ax, go, bl, bh, dp, an, xl, xh, xc) (nI p)) ∧ (∀ post : SY → Prop, post (sw, cw, mp, ld, kc, nx, lg, nw, ls, sp, ac, vi', bc, dc, ak, sb, mk, wr, hg, ky, st, ss, fo, fl, cb', cf', co, rh', ay, go', bl, bh, dp, an, yl, yh, ya, yc) → wpY_dataAtReceiver post (sw, cw, mp, ld, kc, nx, lg, nw, ls, sp, ac, vi, bc, dc, ak, sb, mk, wr, hg, ky, st, ss, fo, fl, cb, cf, co, rh, ay, go, bl, bh, dp, an, yl, yh, ya, yc) (nI p)) := by
  have hi : vp_in (nI p) 64 := vp_in_nI hp (by omega)
  obtain ⟨v2, c2, f2, r2, hr2, hf2, hX2, hY2⟩ := qv_p (sw := sw) (cw := cw) (mp := mp) (ld := ld) (nx := nx) (lg := lg) (nw := nw) (ls := ls) (sp := sp) (bc := bc) (dc := dc) (ak := ak) (wr := wr) (hg := hg) (sb := sb) (mk := mk) (kx := kx) (st := st) (ss := ss) (fo := fo) (fl := fl) (co := co) (ax := ax) (go := upd go (nI p).toNatClampNeg (vp_nar .boolean 1)) (bl := bl) (bh := bh) (dp := dp) (an := an) (xl := xl) (xh := xh) (xc := xc) (kc := kc) (ac := ac) (ky := ky) (ay := ay) (yl := yl) (yh := yh) (ya := ya) (yc := yc) hp hF hax 4 0 vi cb cf rh rfl hrh hcf
  exact ⟨v2, c2, f2, r2, _, hr2, hf2, qa_Bx hgo ⟨1, by omega, qa_vb1⟩, fun post h => ⟨hi, nm_e ⟨5, hX2 post h⟩⟩, fun post h => ⟨hi, nm_e ⟨5, hY2 post h⟩⟩⟩

end QV
end
section
section QD
variable {sw cw mp ld nx lg nw ls sp bc vi dc ak kc ac : Int32} {wr hg sb mk kx st ss fo fl cb cf co rh ax go bl bh dp an xl xh xc ky ay yl yh ya yc : Nat → Int32}
theorem qd_e {a : Nat → Int32} {S i d : Nat} {xi xj : Int32} (hxi : xi = nI i) (hxj : xj = nI (i + d)) (h : S ≤ i) (hi : i + d < 2 ^ 31) : upd (qa_sh a S i d) xi.toNatClampNeg (qa_sh a S i d xj.toNatClampNeg) = qa_sh a S (i + 1) d := by
  subst hxi hxj
  rw [nI_clamp (by omega), nI_clamp hi, qa_shv (by omega)]
  exact qa_shs h
theorem qd_x {D S : Nat} (hS : S < D) (hD : D ≤ 8) {post : SX → Prop} (h : post (sw, cw, mp, ld, nx, lg, nw, ls, sp, bc, vi, nI (D - 1), ak, wr, hg, sb, mk, kx, st, ss, fo, fl, cb, cf, co, rh, ax, go, bl, bh, qa_sh dp S (D - 1) 1, an, xl, xh, xc)) : ∀ d i : Nat, i + d = D - 1 → S ≤ i → wX_removeData_12 post sw cw mp ld nx lg nw ls sp bc vi (nI (D - 1)) ak (d + 1) (nI i) wr hg sb mk kx st ss fo fl cb cf co rh ax go bl bh (qa_sh dp S i 1) an xl xh xc := by
  intro d
  induction d with
  | zero =>
    intro i hi hSi
    obtain rfl : i = D - 1 := by omega
    exact br_t (nI_le (by omega) (by omega)) h
  | succ d ih =>
    intro i hi hSi
    exact br_f (nI_ge (by omega) (by omega)) ⟨pk_in (i + 1) 8 (by omega) (nI_1 i), pk_in i 8 (by omega), nm_r (qd_e rfl (nI_1 i) hSi (by omega)) (nm_r (nI_1 i) (ih (i + 1) (by omega) (by omega)))⟩
theorem qd_y {D S : Nat} (hS : S < D) (hD : D ≤ 8) {post : SY → Prop} (h : post (sw, cw, mp, ld, kc, nx, lg, nw, ls, sp, ac, vi, bc, nI (D - 1), ak, sb, mk, wr, hg, ky, st, ss, fo, fl, cb, cf, co, rh, ay, go, bl, bh, qa_sh dp S (D - 1) 1, an, yl, yh, ya, yc)) : ∀ d i : Nat, i + d = D - 1 → S ≤ i → wY_removeData_2 post sw cw mp ld kc nx lg nw ls sp ac vi bc (nI D) ak (d + 1) (nI i) sb mk wr hg ky st ss fo fl cb cf co rh ay go bl bh (qa_sh dp S i 1) an yl yh ya yc := by
  intro d
  have es : nI D - 1 = nI (D - 1) := qa_s1 (by omega)
  induction d with
  | zero =>
    intro i hi hSi
    obtain rfl : i = D - 1 := by omega
    exact br_t (by rw [es]; exact nI_le (by omega) (by omega)) (nm_r es h)
  | succ d ih =>
    intro i hi hSi
    exact br_f (by rw [es]; exact nI_ge (by omega) (by omega)) (br_f (nI_ge (b := 7) (by omega) (by omega)) ⟨pk_in (i + 1) 8 (by omega) (nI_1 i), pk_in i 8 (by omega), nm_r (qd_e rfl (nI_1 i) hSi (by omega)) (nm_r (nI_1 i) (ih (i + 1) (by omega) (by omega)))⟩)
theorem qd_rd {D S : Nat} (hS : S < D) (hD : D ≤ 8) : (∀ post : SX → Prop, post (sw, cw, mp, ld, nx, lg, nw, ls, sp, bc, vi, nI (D - 1), ak, wr, hg, sb, mk, kx, st, ss, fo, fl, cb, cf, co, rh, ax, go, bl, bh, qa_sh dp S (D - 1) 1, an, xl, xh, xc) → wpX_removeData post (sw, cw, mp, ld, nx, lg, nw, ls, sp, bc, vi, nI D, ak, wr, hg, sb, mk, kx, st, ss, fo, fl, cb, cf, co, rh, ax, go, bl, bh, dp, an, xl, xh, xc) (nI S)) ∧ (∀ post : SY → Prop, post (sw, cw, mp, ld, kc, nx, lg, nw, ls, sp, ac, vi, bc, nI (D - 1), ak, sb, mk, wr, hg, ky, st, ss, fo, fl, cb, cf, co, rh, ay, go, bl, bh, qa_sh dp S (D - 1) 1, an, yl, yh, ya, yc) → wpY_removeData post (sw, cw, mp, ld, kc, nx, lg, nw, ls, sp, ac, vi, bc, nI D, ak, sb, mk, wr, hg, ky, st, ss, fo, fl, cb, cf, co, rh, ay, go, bl, bh, dp, an, yl, yh, ya, yc) (nI S)) := by
  refine ⟨fun post h => nm_r (qa_s1 (by omega)) ⟨D - 1 - S + 1, ?_⟩, fun post h => ⟨D - 1 - S + 1, ?_⟩⟩
  · have := qd_x hS hD h (D - 1 - S) S (by omega) (by omega)
    rw [qa_sh0 (Nat.le_refl S)] at this
    exact this
  · have := qd_y hS hD h (D - 1 - S) S (by omega) (by omega)
    rw [qa_sh0 (Nat.le_refl S)] at this
    exact this
/-! the ACK channel: X's three loops -/
theorem qd_x3 {A S : Nat} (hS : S < A) (hA : A ≤ 8) {post : SX → Prop} (h : post (sw, cw, mp, ld, nx, lg, nw, ls, sp, bc, vi, dc, nI (A - 1), wr, hg, sb, mk, kx, st, ss, fo, fl, cb, cf, co, rh, ax, go, bl, bh, dp, an, xl, xh, qa_sh xc (S * 5) ((A - 1) * 5) 5)) : ∀ d i : Nat, i + d = (A - 1) * 5 → S * 5 ≤ i → wX_removeAck_92 post sw cw mp ld nx lg nw ls sp bc vi dc (nI (A - 1)) (d + 1) (nI i) wr hg sb mk kx st ss fo fl cb cf co rh ax go bl bh dp an xl xh (qa_sh xc (S * 5) i 5) := by
  intro d
  have es : nI (A - 1) * 5 = nI ((A - 1) * 5) := qa_m_5 _
  induction d with
  | zero =>
    intro i hi hSi
    obtain rfl : i = (A - 1) * 5 := by omega
    exact br_t (by rw [es]; exact nI_le (by omega) (by omega)) h
  | succ d ih =>
    intro i hi hSi
    exact br_f (by rw [es]; exact nI_ge (by omega) (by omega)) ⟨pk_in (i + 5) 40 (by omega) (qa_p_5 i), pk_in i 40 (by omega), nm_r (qd_e rfl (qa_p_5 i) hSi (by omega)) (nm_r (nI_1 i) (ih (i + 1) (by omega) (by omega)))⟩
theorem qd_x2 {A S : Nat} (hS : S < A) (hA : A ≤ 8) {post : SX → Prop} (h : post (sw, cw, mp, ld, nx, lg, nw, ls, sp, bc, vi, dc, nI (A - 1), wr, hg, sb, mk, kx, st, ss, fo, fl, cb, cf, co, rh, ax, go, bl, bh, dp, an, qa_sh xl (S * 4) ((A - 1) * 4) 4, qa_sh xh (S * 4) ((A - 1) * 4) 4, qa_sh xc (S * 5) ((A - 1) * 5) 5)) : ∀ d i : Nat, i + d = (A - 1) * 4 → S * 4 ≤ i → wX_removeAck_44 post (nI S) sw cw mp ld nx lg nw ls sp bc vi dc (nI (A - 1)) (d + 1) (nI i) wr hg sb mk kx st ss fo fl cb cf co rh ax go bl bh dp an (qa_sh xl (S * 4) i 4) (qa_sh xh (S * 4) i 4) xc := by
  intro d
  have es : nI (A - 1) * 4 = nI ((A - 1) * 4) := qa_m_4 _
  induction d with
  | zero =>
    intro i hi hSi
    obtain rfl : i = (A - 1) * 4 := by omega
    refine br_t (by rw [es]; exact nI_le (by omega) (by omega)) (nm_r (qa_m_5 S) ⟨(A - 1) * 5 - S * 5 + 1, ?_⟩)
    have := qd_x3 hS hA h ((A - 1) * 5 - S * 5) (S * 5) (by omega) (by omega)
    rw [qa_sh0 (Nat.le_refl (S * 5))] at this
    exact this
  | succ d ih =>
    intro i hi hSi
    have h1 : vp_in (nI i + 4) 32 := pk_in (i + 4) 32 (by omega) (qa_p_4 i)
    have h2 : vp_in (nI i) 32 := pk_in i 32 (by omega)
    exact br_f (by rw [es]; exact nI_ge (by omega) (by omega)) ⟨h1, h2, nm_r (qd_e rfl (qa_p_4 i) hSi (by omega)) ⟨h1, h2, nm_r (qd_e rfl (qa_p_4 i) hSi (by omega)) (nm_r (nI_1 i) (ih (i + 1) (by omega) (by omega)))⟩⟩
theorem qd_x1 {A S : Nat} (hS : S < A) (hA : A ≤ 8) {post : SX → Prop} (h : post (sw, cw, mp, ld, nx, lg, nw, ls, sp, bc, vi, dc, nI (A - 1), wr, hg, sb, mk, kx, st, ss, fo, fl, cb, cf, co, rh, ax, go, bl, bh, dp, qa_sh an S (A - 1) 1, qa_sh xl (S * 4) ((A - 1) * 4) 4, qa_sh xh (S * 4) ((A - 1) * 4) 4, qa_sh xc (S * 5) ((A - 1) * 5) 5)) : ∀ d i : Nat, i + d = A - 1 → S ≤ i → wX_removeAck_12 post (nI S) sw cw mp ld nx lg nw ls sp bc vi dc (nI (A - 1)) (d + 1) (nI i) wr hg sb mk kx st ss fo fl cb cf co rh ax go bl bh dp (qa_sh an S i 1) xl xh xc := by
  intro d
  induction d with
  | zero =>
    intro i hi hSi
    obtain rfl : i = A - 1 := by omega
    refine br_t (nI_le (by omega) (by omega)) (nm_r (qa_m_4 S) ⟨(A - 1) * 4 - S * 4 + 1, ?_⟩)
    have := qd_x2 hS hA h ((A - 1) * 4 - S * 4) (S * 4) (by omega) (by omega)
    rw [qa_sh0 (Nat.le_refl (S * 4)), qa_sh0 (Nat.le_refl (S * 4))] at this
    exact this
  | succ d ih =>
    intro i hi hSi
    exact br_f (nI_ge (by omega) (by omega)) ⟨pk_in (i + 1) 8 (by omega) (nI_1 i), pk_in i 8 (by omega), nm_r (qd_e rfl (nI_1 i) hSi (by omega)) (nm_r (nI_1 i) (ih (i + 1) (by omega) (by omega)))⟩
/-! .. and Y's nested ones -/
theorem qd_y2 {A S j : Nat} (hS : S < A) (hA : A ≤ 8) (hj : j + 1 < A) (hSj : S ≤ j) {post : SY → Prop} {J : Int32 → qt_B} (h : J (nI (j + 1)) sb mk wr hg ky st ss fo fl cb cf co rh ay go bl bh dp an (qa_sh yl (S * 4) ((j + 1) * 4) 4) (qa_sh yh (S * 4) ((j + 1) * 4) 4) (qa_sh ya (S * 4) ((j + 1) * 4) 4) yc) : ∀ d k : Nat, k + d = 4 → wY_removeAck_48 post J (nI j) sw cw mp ld kc nx lg nw ls sp ac vi bc dc ak (d + 1) (nI k) sb mk wr hg ky st ss fo fl cb cf co rh ay go bl bh dp an (qa_sh yl (S * 4) (j * 4 + k) 4) (qa_sh yh (S * 4) (j * 4 + k) 4) (qa_sh ya (S * 4) (j * 4 + k) 4) yc := by
  intro d
  induction d with
  | zero =>
    intro k hk
    obtain rfl : k = 4 := by omega
    rw [show (j + 1) * 4 = j * 4 + 4 by omega] at h
    exact br_t (nI_le (a := 4) (by omega) (by omega)) (nm_r (nI_1 j) h)
  | succ d ih =>
    intro k hk
    have e1 : nI j * 4 + nI k = nI (j * 4 + k) := by rw [qa_m_4, nI_add]
    have e2 : nI j * 4 + 4 + nI k = nI (j * 4 + k + 4) := by
      rw [qa_m_4, qa_p_4, nI_add]
      exact congrArg nI (by omega)
    have h1 : vp_in (nI j * 4 + 4 + nI k) 32 := pk_in (j * 4 + k + 4) 32 (by omega) e2
    have h2 : vp_in (nI j * 4 + nI k) 32 := pk_in (j * 4 + k) 32 (by omega) e1
    exact br_f (qm_l4 (by omega)) ⟨h1, h2, nm_r (qd_e e1 e2 (by omega) (by omega)) ⟨h1, h2, nm_r (qd_e e1 e2 (by omega) (by omega)) ⟨h1, h2, nm_r (qd_e e1 e2 (by omega) (by omega)) (nm_r (nI_1 k) (ih (k + 1) (by omega)))⟩⟩⟩
theorem qd_y1 {A S : Nat} (hS : S < A) (hA : A ≤ 8) {post : SY → Prop} (h : post (sw, cw, mp, ld, kc, nx, lg, nw, ls, sp, ac, vi, bc, dc, nI (A - 1), sb, mk, wr, hg, ky, st, ss, fo, fl, cb, cf, co, rh, ay, go, bl, bh, dp, qa_sh an S (A - 1) 1, qa_sh yl (S * 4) ((A - 1) * 4) 4, qa_sh yh (S * 4) ((A - 1) * 4) 4, qa_sh ya (S * 4) ((A - 1) * 4) 4, qa_sh yc S (A - 1) 1)) : ∀ d i : Nat, i + d = A - 1 → S ≤ i → wY_removeAck_2 post sw cw mp ld kc nx lg nw ls sp ac vi bc dc (nI A) (d + 1) (nI i) sb mk wr hg ky st ss fo fl cb cf co rh ay go bl bh dp (qa_sh an S i 1) (qa_sh yl (S * 4) (i * 4) 4) (qa_sh yh (S * 4) (i * 4) 4) (qa_sh ya (S * 4) (i * 4) 4) (qa_sh yc S i 1) := by
  intro d
  have es : nI A - 1 = nI (A - 1) := qa_s1 (by omega)
  induction d with
  | zero =>
    intro i hi hSi
    obtain rfl : i = A - 1 := by omega
    exact br_t (by rw [es]; exact nI_le (by omega) (by omega)) (nm_r es h)
  | succ d ih =>
    intro i hi hSi
    have h1 : vp_in (nI i + 1) 8 := pk_in (i + 1) 8 (by omega) (nI_1 i)
    have h2 : vp_in (nI i) 8 := pk_in i 8 (by omega)
    exact br_f (by rw [es]; exact nI_ge (by omega) (by omega)) (br_f (nI_ge (b := 7) (by omega) (by omega)) ⟨h1, h2, nm_r (qd_e rfl (nI_1 i) hSi (by omega)) ⟨h1, h2, nm_r (qd_e rfl (nI_1 i) hSi (by omega)) ⟨5, qd_y2 hS hA (by omega) hSi (ih (i + 1) (by omega) (by omega)) 4 0 (by omega)⟩⟩⟩)
theorem qd_ra {A S : Nat} (hS : S < A) (hA : A ≤ 8) : (∀ post : SX → Prop, post (sw, cw, mp, ld, nx, lg, nw, ls, sp, bc, vi, dc, nI (A - 1), wr, hg, sb, mk, kx, st, ss, fo, fl, cb, cf, co, rh, ax, go, bl, bh, dp, qa_sh an S (A - 1) 1, qa_sh xl (S * 4) ((A - 1) * 4) 4, qa_sh xh (S * 4) ((A - 1) * 4) 4, qa_sh xc (S * 5) ((A - 1) * 5) 5) → wpX_removeAck post (sw, cw, mp, ld, nx, lg, nw, ls, sp, bc, vi, dc, nI A, wr, hg, sb, mk, kx, st, ss, fo, fl, cb, cf, co, rh, ax, go, bl, bh, dp, an, xl, xh, xc) (nI S)) ∧ (∀ post : SY → Prop, post (sw, cw, mp, ld, kc, nx, lg, nw, ls, sp, ac, vi, bc, dc, nI (A - 1), sb, mk, wr, hg, ky, st, ss, fo, fl, cb, cf, co, rh, ay, go, bl, bh, dp, qa_sh an S (A - 1) 1, qa_sh yl (S * 4) ((A - 1) * 4) 4, qa_sh yh (S * 4) ((A - 1) * 4) 4, qa_sh ya (S * 4) ((A - 1) * 4) 4, qa_sh yc S (A - 1) 1) → wpY_removeAck post (sw, cw, mp, ld, kc, nx, lg, nw, ls, sp, ac, vi, bc, dc, nI A, sb, mk, wr, hg, ky, st, ss, fo, fl, cb, cf, co, rh, ay, go, bl, bh, dp, an, yl, yh, ya, yc) (nI S)) := by
  refine ⟨fun post h => nm_r (qa_s1 (by omega)) ⟨A - 1 - S + 1, ?_⟩, fun post h => ⟨A - 1 - S + 1, ?_⟩⟩
  · have := qd_x1 hS hA h (A - 1 - S) S (by omega) (by omega)
    rw [qa_sh0 (Nat.le_refl S)] at this
    exact this
  · have := qd_y1 hS hA h (A - 1 - S) S (by omega) (by omega)
    rw [qa_sh0 (Nat.le_refl S), qa_sh0 (Nat.le_refl S), qa_sh0 (Nat.le_refl (S * 4)), qa_sh0 (Nat.le_refl (S * 4)), qa_sh0 (Nat.le_refl (S * 4))] at this
    exact this

theorem i_vc_drop {k : Nat} {u : SX} {v : SY} (I : i_Rel k u v) (hk : k + 3 ≤ 1540) (v1 : Int32) (v2 : Int32) : wpX_drop (fun r u' => wpY_drop (fun r' v' => r' = r ∧ i_Rel (k + 3) u' v') v v1 v2) u v1 v2 := by
  obtain ⟨M, N, C, D, A, sw, cw, ld, lg, nw, ls, sp, vi, kc, ac, wr, hg, sb, mk, kx, st, ss, fo, fl, cb, cf, co, rh, ax, go, bl, bh, dp, an, xl, xh, xc, ky, ay, yl, yh, ya, yc, rfl, rfl, hI⟩ := I
  obtain ⟨⟨hM1, hM8, hN, hC, hD, hA⟩, hlg, hwr, hco, hrh, hcf, hgo, hF, hdp, hbl, hbh, han, hxl, hxh, hkx, hax, hK, hR⟩ := id hI
  by_cases e0 : v1 = 0
  · rcases qa_ix v2 (n := D) (by omega) with ⟨h0, hm⟩ | ⟨h0, h1, h2, hm⟩ | ⟨j, hj, rfl⟩
    · exact br_t e0 (br_t h0 (br_t rfl (br_t e0 (br_t h0 (br_f qa_10 ⟨rfl, qr_mk hI⟩)))))
    · exact br_t e0 (br_f h0 (br_t h1 (br_t rfl (br_t e0 (br_f h0 (br_f h2 (br_f qa_10 ⟨rfl, qr_mk hI⟩)))))))
    · have h0 := nI_pos (n := j) (by omega)
      obtain ⟨hX, hY⟩ := qd_rd (sw := sw) (cw := cw) (mp := nI M) (ld := ld) (nx := nI N) (lg := lg) (nw := nw) (ls := ls) (sp := sp) (bc := nI C) (vi := vi) (ak := nI A) (wr := wr) (hg := hg) (sb := sb) (mk := mk) (kx := kx) (st := st) (ss := ss) (fo := fo) (fl := fl) (cb := cb) (cf := cf) (co := co) (rh := rh) (ax := ax) (go := go) (bl := bl) (bh := bh) (dp := dp) (an := an) (xl := xl) (xh := xh) (xc := xc) (kc := kc) (ac := ac) (ky := ky) (ay := ay) (yl := yl) (yh := yh) (ya := ya) (yc := yc) hj hD
      exact br_t e0 (br_f h0 (br_f (nI_ge hj (by omega)) (br_f qa_10 (br_t e0 (hX _ (br_t e0 (br_f h0 (br_t (nI_lt hj (by omega)) (br_t rfl (br_t e0 (hY _ ⟨rfl, qr_mk ⟨⟨hM1, hM8, hN, hC, by omega, hA⟩, hlg, hwr, hco, hrh, hcf, hgo, hF, qa_Bsh hdp, hbl, hbh, han, hxl, hxh, hkx, hax, hK, hR⟩⟩)))))))))))
  · by_cases e1 : v1 = 1
    · rcases qa_ix v2 (n := A) (by omega) with ⟨h0, hm⟩ | ⟨h0, h1, h2, hm⟩ | ⟨j, hj, rfl⟩
      · exact br_f e0 (br_t e1 (br_t h0 (br_t rfl (br_f e0 (br_t e1 (br_t h0 (br_f qa_10 ⟨rfl, qr_mk hI⟩)))))))
      · exact br_f e0 (br_t e1 (br_f h0 (br_t h1 (br_t rfl (br_f e0 (br_t e1 (br_f h0 (br_f h2 (br_f qa_10 ⟨rfl, qr_mk hI⟩)))))))))
      · have h0 := nI_pos (n := j) (by omega)
        obtain ⟨hX, hY⟩ := qd_ra (sw := sw) (cw := cw) (mp := nI M) (ld := ld) (nx := nI N) (lg := lg) (nw := nw) (ls := ls) (sp := sp) (bc := nI C) (vi := vi) (dc := nI D) (wr := wr) (hg := hg) (sb := sb) (mk := mk) (kx := kx) (st := st) (ss := ss) (fo := fo) (fl := fl) (cb := cb) (cf := cf) (co := co) (rh := rh) (ax := ax) (go := go) (bl := bl) (bh := bh) (dp := dp) (an := an) (xl := xl) (xh := xh) (xc := xc) (kc := kc) (ac := ac) (ky := ky) (ay := ay) (yl := yl) (yh := yh) (ya := ya) (yc := yc) hj hA
        exact br_f e0 (br_t e1 (br_f h0 (br_f (nI_ge hj (by omega)) (br_f qa_10 (br_f e0 (hX _ (br_f e0 (br_t e1 (br_f h0 (br_t (nI_lt hj (by omega)) (br_t rfl (br_f e0 (hY _ ⟨rfl, qr_mk ⟨⟨hM1, hM8, hN, hC, hD, by omega⟩, hlg, hwr, hco, hrh, hcf, hgo, hF, hdp, hbl, hbh, qa_Bsh han, qa_Bsh hxl, qa_Bsh hxh, hkx, hax, qr_Ksh hK hj, qr_Rsh hR hj⟩⟩)))))))))))))
    · exact br_f e0 (br_f e1 (br_t rfl (br_f e0 (br_f e1 (br_f qa_10 ⟨rfl, qr_mk hI⟩)))))
end QD
end
section
section QK
variable {sw cw mp ld nx lg nw ls sp bc vi dc ak kc ac : Int32} {wr hg sb mk kx st ss fo fl cb cf co rh ax go bl bh dp an xl xh xc ky ay yl yh ya yc : Nat → Int32}
theorem qk_x {S R : Nat} (hS : S < 8) (eR : an (nI S).toNatClampNeg = nI R) {post : SX → Prop} (h : ∃ n, wX_acceptAck_47 post (nI S) (nI R) n 0 sw cw mp ld nx lg nw ls sp bc vi dc ak wr hg sb mk (qa_up kx (fun j => xc (S * 5 + j)) 5) st ss fo fl cb cf co rh ax go bl bh dp an xl xh xc) : ∀ d k : Nat, k + d = 5 → wX_acceptAck_2 post (nI S) sw cw mp ld nx lg nw ls sp bc vi dc ak (d + 1) (nI k) wr hg sb mk (qa_up kx (fun j => xc (S * 5 + j)) k) st ss fo fl cb cf co rh ax go bl bh dp an xl xh xc := by
  intro d
  have h8 : vp_in (nI S) 8 := vp_in_nI hS (by omega)
  induction d with
  | zero =>
    intro k hk
    obtain rfl : k = 5 := by omega
    exact br_t (nI_le (a := 5) (by omega) (by omega)) ⟨h8, nm_r eR h⟩
  | succ d ih =>
    intro k hk
    have h5 : vp_in (nI k) 5 := vp_in_nI (by omega) (by omega)
    have e1 : nI S * 5 + nI k = nI (S * 5 + k) := by rw [qa_m_5, nI_add]
    have e : upd (qa_up kx (fun j => xc (S * 5 + j)) k) (nI k).toNatClampNeg (qa_mx (qa_up kx (fun j => xc (S * 5 + j)) k (nI k).toNatClampNeg) (xc (nI S * 5 + nI k).toNatClampNeg)) = qa_up kx (fun j => xc (S * 5 + j)) (k + 1) := by
      rw [e1, nI_clamp (by omega), nI_clamp (by omega), qa_upn (Nat.le_refl k)]
      exact qa_ups (g := fun j => xc (S * 5 + j))
    exact br_f (nI_ge (b := 5) (by omega) (by omega)) ⟨h5, pk_in (S * 5 + k) 40 (by omega) e1, qv_gr ⟨h5, nm_r e (nm_r (nI_1 k) (ih (k + 1) (by omega)))⟩⟩
theorem qk_y {S R : Nat} (hS : S < 8) (eR : an (nI S).toNatClampNeg = nI R) {post : SY → Prop} (h : ∃ n, wY_ackAtSender_80 post (nI S) (nI R) n 0 sw cw mp ld (qa_mx kc (yc S)) nx lg nw ls sp ac vi bc dc ak sb mk wr hg (qa_up ky (fun j => ya (S * 4 + j)) 4) st ss fo fl cb cf co rh ay go bl bh dp an yl yh ya yc) : ∀ d k : Nat, k + d = 4 → wY_ackAtSender_2 post (nI S) sw cw mp ld kc nx lg nw ls sp ac vi bc dc ak (d + 1) (nI k) sb mk wr hg (qa_up ky (fun j => ya (S * 4 + j)) k) st ss fo fl cb cf co rh ay go bl bh dp an yl yh ya yc := by
  intro d
  have h8 : vp_in (nI S) 8 := vp_in_nI hS (by omega)
  induction d with
  | zero =>
    intro k hk
    obtain rfl : k = 4 := by omega
    refine br_t (nI_le (a := 4) (by omega) (by omega)) ⟨h8, ?_⟩
    rw [← nI_clamp (n := S) (by omega)] at h
    by_cases z : yc (nI S).toNatClampNeg ≤ kc
    · rw [qa_mx2 (Int32.not_lt.mpr z)] at h
      rw [nI_clamp (n := S) (by omega)] at h
      exact br_t z ⟨h8, nm_r eR h⟩
    · rw [qa_mx1 (Int32.not_le.mp z)] at h
      rw [nI_clamp (n := S) (by omega)] at h
      exact br_f z ⟨h8, nm_r (by rw [nI_clamp (by omega)]) ⟨h8, nm_r eR h⟩⟩
  | succ d ih =>
    intro k hk
    have h4 : vp_in (nI k) 4 := vp_in_nI (by omega) (by omega)
    have e1 : nI S * 4 + nI k = nI (S * 4 + k) := by rw [qa_m_4, nI_add]
    have h32 : vp_in (nI S * 4 + nI k) 32 := pk_in (S * 4 + k) 32 (by omega) e1
    have ev : qa_up ky (fun j => ya (S * 4 + j)) k (nI k).toNatClampNeg = ky k := by rw [nI_clamp (by omega), qa_upn (Nat.le_refl k)]
    have ew : ya (nI S * 4 + nI k).toNatClampNeg = ya (S * 4 + k) := by rw [e1, nI_clamp (by omega)]
    have I := ih (k + 1) (by omega)
    by_cases z : ya (nI S * 4 + nI k).toNatClampNeg ≤ qa_up ky (fun j => ya (S * 4 + j)) k (nI k).toNatClampNeg
    · have z2 := z
      rw [ev, ew] at z2
      rw [qa_upk (qa_mx2 (Int32.not_lt.mpr z2))] at I
      exact br_f (qm_l4 (by omega)) ⟨h32, h4, br_t z (nm_r (nI_1 k) I)⟩
    · have z2 := z
      rw [ev, ew] at z2
      have e : upd (qa_up ky (fun j => ya (S * 4 + j)) k) (nI k).toNatClampNeg (ya (nI S * 4 + nI k).toNatClampNeg) = qa_up ky (fun j => ya (S * 4 + j)) (k + 1) := by
        rw [ew, nI_clamp (by omega), ← qa_ups]
        rw [qa_mx1 (Int32.not_le.mp z2)]
      exact br_f (qm_l4 (by omega)) ⟨h32, h4, br_f z ⟨h32, h4, nm_r e (nm_r (nI_1 k) I)⟩⟩
/-- one packet acknowledged -/
theorem qk_a {h p n : Nat} (hh : h ≤ 63) (hp : p ≤ h) (hF : qr_F fo fl) : ∃ ss' mk' sp', (∀ post : SX → Prop, post (sw, cw, mp, ld, nx, lg, nw, ls, sp', bc, vi, dc, ak, wr, hg, sb, mk', kx, st, ss', fo, fl, cb, cf, co, rh, ax, go, bl, bh, dp, an, xl, xh, xc) → wpX_acknowledge post (sw, cw, mp, ld, nx, lg, nw, ls, sp, bc, vi, dc, ak, wr, hg, sb, mk, kx, st, ss, fo, fl, cb, cf, co, rh, ax, go, bl, bh, dp, an, xl, xh, xc) (nI p)) ∧ (∀ (post : SY → Prop) (J : qt_Y) (x1 x2 x3 : Int32), wY_ackAtSender_118 post J x1 x2 x3 (nI h) n (nI (p + 1)) sw cw mp ld kc nx lg nw ls sp' ac vi bc dc ak sb mk' wr hg ky st ss' fo fl cb cf co rh ay go bl bh dp an yl yh ya yc → wY_ackAtSender_118 post J x1 x2 x3 (nI h) (n + 1) (nI p) sw cw mp ld kc nx lg nw ls sp ac vi bc dc ak sb mk wr hg ky st ss fo fl cb cf co rh ay go bl bh dp an yl yh ya yc) := by
  have hi : vp_in (nI p) 64 := vp_in_nI (by omega) (by omega)
  have h1 : ¬ nI h < nI p := nI_nlt hp (by omega)
  have h64 : ¬ 64 ≤ nI p := nI_ge (b := 64) (by omega) (by omega)
  have h0 : 0 ≤ nI p := nI_pos' (by omega)
  by_cases Z1 : ss (nI p).toNatClampNeg = 1
  · have Z3 : ¬ ss (nI p).toNatClampNeg = 3 := by rw [Z1]; decide
    obtain ⟨m1, hX1, hY1⟩ := qm_a2 (sw := sw) (cw := cw) (mp := mp) (ld := ld) (nx := nx) (lg := lg) (nw := nw) (ls := ls) (sp := sp) (bc := bc) (vi := vi) (dc := dc) (ak := ak) (wr := wr) (hg := hg) (sb := sb) (kx := kx) (st := st) (ss := upd ss (nI p).toNatClampNeg 2) (fo := fo) (fl := fl) (cb := cb) (cf := cf) (co := co) (rh := rh) (ax := ax) (go := go) (bl := bl) (bh := bh) (dp := dp) (an := an) (xl := xl) (xh := xh) (xc := xc) (kc := kc) (ac := ac) (ky := ky) (ay := ay) (yl := yl) (yh := yh) (ya := ya) (yc := yc) (p := p) (by omega) hF 4 0 mk rfl
    exact ⟨_, m1, sp, fun post hp => ⟨hi, br_t Z1 ⟨hi, br_f Z3 ⟨hi, nm_e ⟨5, hX1 _ hp⟩⟩⟩⟩, fun post J x1 x2 x3 hJ => br_f h1 (br_f h64 (br_t h0 ⟨hi, br_t Z1 ⟨hi, br_f Z3 ⟨hi, nm_e ⟨5, hY1 _ (nm_r (nI_1 p) hJ)⟩⟩⟩⟩))⟩
  · by_cases Z3 : ss (nI p).toNatClampNeg = 3
    · obtain ⟨m1, hX1, hY1⟩ := qm_a2 (sw := sw) (cw := cw) (mp := mp) (ld := ld) (nx := nx) (lg := lg) (nw := nw) (ls := ls) (sp := sp + 1) (bc := bc) (vi := vi) (dc := dc) (ak := ak) (wr := wr) (hg := hg) (sb := sb) (kx := kx) (st := st) (ss := upd ss (nI p).toNatClampNeg 2) (fo := fo) (fl := fl) (cb := cb) (cf := cf) (co := co) (rh := rh) (ax := ax) (go := go) (bl := bl) (bh := bh) (dp := dp) (an := an) (xl := xl) (xh := xh) (xc := xc) (kc := kc) (ac := ac) (ky := ky) (ay := ay) (yl := yl) (yh := yh) (ya := ya) (yc := yc) (p := p) (by omega) hF 4 0 mk rfl
      exact ⟨_, m1, _, fun post hp => ⟨hi, br_f Z1 ⟨hi, br_t Z3 ⟨hi, br_t Z3 (nm_e ⟨hi, nm_e ⟨5, hX1 _ hp⟩⟩)⟩⟩⟩, fun post J x1 x2 x3 hJ => br_f h1 (br_f h64 (br_t h0 ⟨hi, br_f Z1 ⟨hi, br_t Z3 ⟨hi, br_t Z3 (nm_e ⟨hi, nm_e ⟨5, hY1 _ (nm_r (nI_1 p) hJ)⟩⟩)⟩⟩⟩))⟩
    · exact ⟨ss, mk, sp, fun post hp => ⟨hi, br_f Z1 ⟨hi, br_f Z3 hp⟩⟩, fun post J x1 x2 x3 hJ => br_f h1 (br_f h64 (br_t h0 ⟨hi, br_f Z1 ⟨hi, br_f Z3 (nm_r (nI_1 p) hJ)⟩⟩))⟩
/-- a range -/
theorem qk_l {h : Nat} (hh : h ≤ 63) (hF : qr_F fo fl) : ∀ (d p : Nat) (ss mk : Nat → Int32) (sp : Int32), p ≤ 64 → d = h + 1 - p → ∃ ss' mk' sp', (∀ (post : SX → Prop) (J : qt_X) (x1 x2 : Int32) (r : Nat), J (nI (r + 1)) sw cw mp ld nx lg nw ls sp' bc vi dc ak wr hg sb mk' kx st ss' fo fl cb cf co rh ax go bl bh dp an xl xh xc → wX_acceptAck_76 post J x1 x2 (nI r) (nI h) (d + 1) (nI p) sw cw mp ld nx lg nw ls sp bc vi dc ak wr hg sb mk kx st ss fo fl cb cf co rh ax go bl bh dp an xl xh xc) ∧ (∀ (post : SY → Prop) (J : qt_Y) (x1 x2 : Int32) (r : Nat), J (nI (r + 1)) sw cw mp ld kc nx lg nw ls sp' ac vi bc dc ak sb mk' wr hg ky st ss' fo fl cb cf co rh ay go bl bh dp an yl yh ya yc → wY_ackAtSender_118 post J x1 x2 (nI r) (nI h) (d + 1) (nI p) sw cw mp ld kc nx lg nw ls sp ac vi bc dc ak sb mk wr hg ky st ss fo fl cb cf co rh ay go bl bh dp an yl yh ya yc) := by
  intro d
  induction d with
  | zero =>
    intro p ss mk sp hp hd
    have h1 : nI h < nI p := nI_lt (by omega) (by omega)
    exact ⟨ss, mk, sp, fun post J x1 x2 r hJ => br_t h1 (nm_r (nI_1 r) hJ), fun post J x1 x2 r hJ => br_t h1 (nm_r (nI_1 r) hJ)⟩
  | succ d ih =>
    intro p ss mk sp hp hd
    have h1 : ¬ nI h < nI p := nI_nlt (by omega) (by omega)
    obtain ⟨s1, m1, q1, hX1, hY1⟩ := qk_a (sw := sw) (cw := cw) (mp := mp) (ld := ld) (nx := nx) (lg := lg) (nw := nw) (ls := ls) (sp := sp) (bc := bc) (vi := vi) (dc := dc) (ak := ak) (wr := wr) (hg := hg) (sb := sb) (mk := mk) (kx := kx) (st := st) (ss := ss) (fo := fo) (fl := fl) (cb := cb) (cf := cf) (co := co) (rh := rh) (ax := ax) (go := go) (bl := bl) (bh := bh) (dp := dp) (an := an) (xl := xl) (xh := xh) (xc := xc) (kc := kc) (ac := ac) (ky := ky) (ay := ay) (yl := yl) (yh := yh) (ya := ya) (yc := yc) (n := d + 1) (p := p) hh (by omega) hF
    obtain ⟨s2, m2, q2, hX2, hY2⟩ := ih (p + 1) s1 m1 q1 (by omega) (by omega)
    exact ⟨s2, m2, q2, fun post J x1 x2 r hJ => br_f h1 (hX1 _ (nm_r (nI_1 p) (hX2 post J x1 x2 r hJ))), fun post J x1 x2 r hJ => hY1 post J x1 x2 (nI r) (hY2 post J x1 x2 r hJ)⟩
/-- the ranges, and largest -/
theorem qk_r {S R : Nat} {lg' : Int32} (hS : S < 8) (hR : R ≤ 4) (hF : qr_F fo fl) (hxl : qa_B xl 63) (hxh : qa_B xh 63) (hy : ∀ r, r < R → xl (S * 4 + r) = yl (S * 4 + r) ∧ xh (S * 4 + r) = yh (S * 4 + r)) (l0 : R = 0 → lg' = lg) (l1 : 0 < R → lg' = qa_mx lg (xh (S * 4))) : ∀ (d r : Nat) (ss mk : Nat → Int32) (sp : Int32), r + d = R → ∃ ss' mk' sp', (∀ post : SX → Prop, wX_acceptAck_124 post sw cw mp ld nx lg' nw ls sp' bc vi dc ak wr hg sb mk' kx st ss' fo fl cb cf co rh ax go bl bh dp an xl xh xc → wX_acceptAck_47 post (nI S) (nI R) (d + 1) (nI r) sw cw mp ld nx lg nw ls sp bc vi dc ak wr hg sb mk kx st ss fo fl cb cf co rh ax go bl bh dp an xl xh xc) ∧ (∀ post : SY → Prop, wY_ackAtSender_242 post sw cw mp ld kc nx lg' nw ls sp' ac vi bc dc ak sb mk' wr hg ky st ss' fo fl cb cf co rh ay go bl bh dp an yl yh ya yc → wY_ackAtSender_80 post (nI S) (nI R) (d + 1) (nI r) sw cw mp ld kc nx lg nw ls sp ac vi bc dc ak sb mk wr hg ky st ss fo fl cb cf co rh ay go bl bh dp an yl yh ya yc) := by
  have e4 : nI S * 4 = nI (S * 4) := qa_m_4 S
  have ec : (nI S * 4).toNatClampNeg = S * 4 := by rw [e4, nI_clamp (by omega)]
  have h32 : vp_in (nI S * 4) 32 := pk_in (S * 4) 32 (by omega) e4
  intro d
  induction d with
  | zero =>
    intro r ss mk sp hr
    have h1 : nI R ≤ nI r := nI_le (by omega) (by omega)
    refine ⟨ss, mk, sp, fun post h => br_t h1 ?_, fun post h => br_t h1 ?_⟩
    · rcases Nat.eq_zero_or_pos R with z | z
      · rw [l0 z] at h
        subst z
        exact br_t (by decide) h
      · rw [l1 z, ← ec] at h
        exact br_f (fun q => absurd ((qa_le_0 (by omega)).mp q) (by omega)) ⟨h32, qv_gr h⟩
    · rcases Nat.eq_zero_or_pos R with z | z
      · rw [l0 z] at h
        subst z
        exact br_t (by decide) h
      · have eh : xh (S * 4) = yh (S * 4) := (hy 0 z).2
        rw [l1 z, eh, ← ec] at h
        refine br_f (fun q => absurd ((qa_le_0 (by omega)).mp q) (by omega)) ⟨h32, ?_⟩
        by_cases q : yh (nI S * 4).toNatClampNeg ≤ lg
        · rw [qa_mx2 (Int32.not_lt.mpr q)] at h
          exact br_t q h
        · rw [qa_mx1 (Int32.not_le.mp q)] at h
          exact br_f q ⟨h32, nm_e h⟩
  | succ d ih =>
    intro r ss mk sp hr
    have h1 : ¬ nI R ≤ nI r := nI_ge (by omega) (by omega)
    have e1 : nI S * 4 + nI r = nI (S * 4 + r) := by rw [qa_m_4, nI_add]
    have e2 : (nI S * 4 + nI r).toNatClampNeg = S * 4 + r := by rw [e1, nI_clamp (by omega)]
    have hi : vp_in (nI S * 4 + nI r) 32 := pk_in (S * 4 + r) 32 (by omega) e1
    obtain ⟨hyl, hyh⟩ := hy r (by omega)
    obtain ⟨lo, hlo, elo⟩ := hxl (S * 4 + r)
    obtain ⟨h, hh, ehi⟩ := hxh (S * 4 + r)
    obtain ⟨s1, m1, q1, hX1, hY1⟩ := qk_l (sw := sw) (cw := cw) (mp := mp) (ld := ld) (nx := nx) (lg := lg) (nw := nw) (ls := ls) (bc := bc) (vi := vi) (dc := dc) (ak := ak) (wr := wr) (hg := hg) (sb := sb) (kx := kx) (st := st) (fo := fo) (fl := fl) (cb := cb) (cf := cf) (co := co) (rh := rh) (ax := ax) (go := go) (bl := bl) (bh := bh) (dp := dp) (an := an) (xl := xl) (xh := xh) (xc := xc) (kc := kc) (ac := ac) (ky := ky) (ay := ay) (yl := yl) (yh := yh) (ya := ya) (yc := yc) hh hF (h + 1 - lo) lo ss mk sp (by omega) rfl
    obtain ⟨s2, m2, q2, hX2, hY2⟩ := ih (r + 1) s1 m1 q1 (by omega)
    exact ⟨s2, m2, q2, fun post hp => br_f h1 ⟨hi, nm_r (by rw [e2]; exact ehi) ⟨hi, nm_r (by rw [e2]; exact elo) ⟨h + 1 - lo + 1, hX1 _ _ _ _ r (hX2 post hp)⟩⟩⟩, fun post hp => br_f h1 (br_f (qm_l4 (by omega)) ⟨hi, nm_r (by rw [e2, ← hyl]; exact elo) ⟨hi, nm_r (by rw [e2, ← hyh]; exact ehi) ⟨h + 1 - lo + 1, hY1 _ _ _ _ r (hY2 post hp)⟩⟩⟩)⟩
theorem qk_all {A S : Nat} (hA : A ≤ 8) (hS : S < A) (hlg : lg = -1 ∨ ∃ L, L ≤ 63 ∧ lg = nI L) (hF : qr_F fo fl) (han : qa_B an 4) (hxl : qa_B xl 63) (hxh : qa_B xh 63) (hR : qr_R A an xl xh yl yh) : ∃ ss' mk' sp' ls' lg', (lg' = -1 ∨ ∃ L, L ≤ 63 ∧ lg' = nI L) ∧ (∀ post : SX → Prop, post (sw, cw, mp, ld, nx, lg', nw, ls', sp', bc, vi, dc, ak, wr, hg, sb, mk', qa_up kx (fun j => xc (S * 5 + j)) 5, st, ss', fo, fl, cb, cf, co, rh, ax, go, bl, bh, dp, an, xl, xh, xc) → wpX_acceptAck post (sw, cw, mp, ld, nx, lg, nw, ls, sp, bc, vi, dc, ak, wr, hg, sb, mk, kx, st, ss, fo, fl, cb, cf, co, rh, ax, go, bl, bh, dp, an, xl, xh, xc) (nI S)) ∧ (∀ post : SY → Prop, post (sw, cw, mp, ld, qa_mx kc (yc S), nx, lg', nw, ls', sp', ac, vi, bc, dc, ak, sb, mk', wr, hg, qa_up ky (fun j => ya (S * 4 + j)) 4, st, ss', fo, fl, cb, cf, co, rh, ay, go, bl, bh, dp, an, yl, yh, ya, yc) → wpY_ackAtSender post (sw, cw, mp, ld, kc, nx, lg, nw, ls, sp, ac, vi, bc, dc, ak, sb, mk, wr, hg, ky, st, ss, fo, fl, cb, cf, co, rh, ay, go, bl, bh, dp, an, yl, yh, ya, yc) (nI S)) := by
  obtain ⟨R, hR4, eR⟩ := han S
  have eR' : an (nI S).toNatClampNeg = nI R := by rw [nI_clamp (by omega)]; exact eR
  have hy := hR S hS R eR hR4
  obtain ⟨h0, hh0, eh0⟩ := hxh (S * 4)
  obtain ⟨lg', l0, l1, hl⟩ : ∃ lg' : Int32, (R = 0 → lg' = lg) ∧ (0 < R → lg' = qa_mx lg (xh (S * 4))) ∧ (lg' = -1 ∨ ∃ L, L ≤ 63 ∧ lg' = nI L) := by
    rcases Nat.eq_zero_or_pos R with z | z
    · exact ⟨lg, fun _ => rfl, fun q => absurd q (by omega), hlg⟩
    · refine ⟨_, fun q => absurd q (by omega), fun _ => rfl, ?_⟩
      by_cases q : lg < xh (S * 4)
      · rw [qa_mx1 q]; exact Or.inr ⟨h0, hh0, eh0⟩
      · rw [qa_mx2 q]; exact hlg
  obtain ⟨s1, m1, q1, hX1, hY1⟩ := qk_r (sw := sw) (cw := cw) (mp := mp) (ld := ld) (nx := nx) (lg := lg) (nw := nw) (ls := ls) (bc := bc) (vi := vi) (dc := dc) (ak := ak) (wr := wr) (hg := hg) (sb := sb) (kx := qa_up kx (fun j => xc (S * 5 + j)) 5) (st := st) (fo := fo) (fl := fl) (cb := cb) (cf := cf) (co := co) (rh := rh) (ax := ax) (go := go) (bl := bl) (bh := bh) (dp := dp) (an := an) (xl := xl) (xh := xh) (xc := xc) (kc := qa_mx kc (yc S)) (ac := ac) (ky := qa_up ky (fun j => ya (S * 4 + j)) 4) (ay := ay) (yl := yl) (yh := yh) (ya := ya) (yc := yc) (by omega) hR4 hF hxl hxh hy l0 l1 R 0 ss mk sp (by omega)
  obtain ⟨s2, m2, l2, hX2, hY2⟩ := qm_det (sw := sw) (cw := cw) (mp := mp) (ld := ld) (nx := nx) (lg := lg') (nw := nw) (ls := ls) (sp := q1) (bc := bc) (vi := vi) (dc := dc) (ak := ak) (wr := wr) (hg := hg) (sb := sb) (mk := m1) (kx := qa_up kx (fun j => xc (S * 5 + j)) 5) (st := st) (ss := s1) (fo := fo) (fl := fl) (cb := cb) (cf := cf) (co := co) (rh := rh) (ax := ax) (go := go) (bl := bl) (bh := bh) (dp := dp) (an := an) (xl := xl) (xh := xh) (xc := xc) (kc := qa_mx kc (yc S)) (ac := ac) (ky := qa_up ky (fun j => ya (S * 4 + j)) 4) (ay := ay) (yl := yl) (yh := yh) (ya := ya) (yc := yc) hl hF
  refine ⟨s2, m2, q1, l2, lg', hl, fun post hp => ⟨6, ?_⟩, fun post hp => ⟨5, ?_⟩⟩
  · have := qk_x (sw := sw) (cw := cw) (mp := mp) (ld := ld) (nx := nx) (lg := lg) (nw := nw) (ls := ls) (sp := sp) (bc := bc) (vi := vi) (dc := dc) (ak := ak) (wr := wr) (hg := hg) (sb := sb) (mk := mk) (kx := kx) (st := st) (ss := ss) (fo := fo) (fl := fl) (cb := cb) (cf := cf) (co := co) (rh := rh) (ax := ax) (go := go) (bl := bl) (bh := bh) (dp := dp) (an := an) (xl := xl) (xh := xh) (xc := xc) (by omega) eR' (post := post) ⟨R + 1, hX1 post (by unfold wX_acceptAck_124; exact hX2 _ hp)⟩ 5 0 rfl
    rw [qa_up0] at this
    exact this
  · have := qk_y (sw := sw) (cw := cw) (mp := mp) (ld := ld) (nx := nx) (lg := lg) (nw := nw) (ls := ls) (sp := sp) (bc := bc) (vi := vi) (dc := dc) (ak := ak) (wr := wr) (hg := hg) (sb := sb) (mk := mk) (st := st) (ss := ss) (fo := fo) (fl := fl) (cb := cb) (cf := cf) (co := co) (rh := rh) (go := go) (bl := bl) (bh := bh) (dp := dp) (an := an) (kc := kc) (ac := ac) (ky := ky) (ay := ay) (yl := yl) (yh := yh) (ya := ya) (yc := yc) (by omega) eR' (post := post) ⟨R + 1, hY1 post (by unfold wY_ackAtSender_242; exact hY2 _ hp)⟩ 4 0 rfl
    rw [qa_up0] at this
    exact this

theorem i_vc_deliver {k : Nat} {u : SX} {v : SY} (I : i_Rel k u v) (hk : k + 3 ≤ 1540) (v1 : Int32) (v2 : Int32) : wpX_deliver (fun r u' => wpY_deliver (fun r' v' => r' = r ∧ i_Rel (k + 3) u' v') v v1 v2) u v1 v2 := by
  obtain ⟨M, N, C, D, A, sw, cw, ld, lg, nw, ls, sp, vi, kc, ac, wr, hg, sb, mk, kx, st, ss, fo, fl, cb, cf, co, rh, ax, go, bl, bh, dp, an, xl, xh, xc, ky, ay, yl, yh, ya, yc, rfl, rfl, hI⟩ := I
  obtain ⟨⟨hM1, hM8, hN, hC, hD, hA⟩, hlg, hwr, hco, hrh, hcf, hgo, hF, hdp, hbl, hbh, han, hxl, hxh, hkx, hax, hK, hR⟩ := id hI
  by_cases e0 : v1 = 0
  · rcases qa_ix v2 (n := D) (by omega) with ⟨h0, hm⟩ | ⟨h0, h1, h2, hm⟩ | ⟨j, hj, rfl⟩
    · exact br_t e0 (br_t h0 (br_t rfl (br_t e0 (br_t h0 (br_f qa_10 ⟨rfl, qr_mk hI⟩)))))
    · exact br_t e0 (br_f h0 (br_t h1 (br_t rfl (br_t e0 (br_f h0 (br_f h2 (br_f qa_10 ⟨rfl, qr_mk hI⟩)))))))
    · have h0 := nI_pos (n := j) (by omega)
      have h8 : vp_in (nI j) 8 := vp_in_nI (by omega) (by omega)
      obtain ⟨p, hp, ep⟩ := hdp (nI j).toNatClampNeg
      have hp0 := nI_pos (n := p) (by omega)
      have hp64 : ¬ 64 ≤ nI p := nI_ge (b := 64) (by omega) (by omega)
      obtain ⟨hX, hY⟩ := qd_rd (sw := sw) (cw := cw) (mp := nI M) (ld := ld) (nx := nI N) (lg := lg) (nw := nw) (ls := ls) (sp := sp) (bc := nI C) (vi := vi) (ak := nI A) (wr := wr) (hg := hg) (sb := sb) (mk := mk) (kx := kx) (st := st) (ss := ss) (fo := fo) (fl := fl) (cb := cb) (cf := cf) (co := co) (rh := rh) (ax := ax) (go := go) (bl := bl) (bh := bh) (dp := dp) (an := an) (xl := xl) (xh := xh) (xc := xc) (kc := kc) (ac := ac) (ky := ky) (ay := ay) (yl := yl) (yh := yh) (ya := ya) (yc := yc) hj hD
      obtain ⟨vi', cb', cf', rh', go', hrh', hcf', hgo', hX2, hY2⟩ := qv_rcv (sw := sw) (cw := cw) (mp := nI M) (ld := ld) (nx := nI N) (lg := lg) (nw := nw) (ls := ls) (sp := sp) (bc := nI C) (vi := vi) (dc := nI (D - 1)) (ak := nI A) (wr := wr) (hg := hg) (sb := sb) (mk := mk) (kx := kx) (st := st) (ss := ss) (fo := fo) (fl := fl) (cb := cb) (cf := cf) (co := co) (rh := rh) (ax := ax) (go := go) (bl := bl) (bh := bh) (dp := qa_sh dp j (D - 1) 1) (an := an) (xl := xl) (xh := xh) (xc := xc) (kc := kc) (ac := ac) (ky := ky) (ay := ay) (yl := yl) (yh := yh) (ya := ya) (yc := yc) (p := p) (by omega) hF hax hrh hcf hgo
      exact br_t e0 (br_f h0 (br_f (nI_ge hj (by omega)) (br_f qa_10 (br_t e0 ⟨h8, nm_r ep (hX _ (hX2 _ (br_t e0 (br_f h0 (br_t (nI_lt hj (by omega)) (br_t rfl (br_t e0 ⟨h8, nm_r ep (hY _ (br_f hp0 (br_f hp64 (hY2 _ ⟨rfl, qr_mk ⟨⟨hM1, hM8, hN, hC, by omega, hA⟩, hlg, hwr, hco, hrh', hcf', hgo', hF, qa_Bsh hdp, hbl, hbh, han, hxl, hxh, hkx, hax, hK, hR⟩⟩))))⟩)))))))⟩))))
  · by_cases e1 : v1 = 1
    · rcases qa_ix v2 (n := A) (by omega) with ⟨h0, hm⟩ | ⟨h0, h1, h2, hm⟩ | ⟨j, hj, rfl⟩
      · exact br_f e0 (br_t e1 (br_t h0 (br_t rfl (br_f e0 (br_t e1 (br_t h0 (br_f qa_10 ⟨rfl, qr_mk hI⟩)))))))
      · exact br_f e0 (br_t e1 (br_f h0 (br_t h1 (br_t rfl (br_f e0 (br_t e1 (br_f h0 (br_f h2 (br_f qa_10 ⟨rfl, qr_mk hI⟩)))))))))
      · have h0 := nI_pos (n := j) (by omega)
        obtain ⟨ss', mk', sp', ls', lg', hlg', hX, hY⟩ := qk_all (sw := sw) (cw := cw) (mp := nI M) (ld := ld) (nx := nI N) (lg := lg) (nw := nw) (ls := ls) (sp := sp) (bc := nI C) (vi := vi) (dc := nI D) (ak := nI A) (wr := wr) (hg := hg) (sb := sb) (mk := mk) (kx := kx) (st := st) (ss := ss) (fo := fo) (fl := fl) (cb := cb) (cf := cf) (co := co) (rh := rh) (ax := ax) (go := go) (bl := bl) (bh := bh) (dp := dp) (an := an) (xl := xl) (xh := xh) (xc := xc) (kc := kc) (ac := ac) (ky := ky) (ay := ay) (yl := yl) (yh := yh) (ya := ya) (yc := yc) hA hj hlg hF han hxl hxh hR
        obtain ⟨hX2, hY2⟩ := qd_ra (sw := sw) (cw := cw) (mp := nI M) (ld := ld) (nx := nI N) (lg := lg') (nw := nw) (ls := ls') (sp := sp') (bc := nI C) (vi := vi) (dc := nI D) (wr := wr) (hg := hg) (sb := sb) (mk := mk') (kx := qa_up kx (fun i => xc (j * 5 + i)) 5) (st := st) (ss := ss') (fo := fo) (fl := fl) (cb := cb) (cf := cf) (co := co) (rh := rh) (ax := ax) (go := go) (bl := bl) (bh := bh) (dp := dp) (an := an) (xl := xl) (xh := xh) (xc := xc) (kc := qa_mx kc (yc j)) (ac := ac) (ky := qa_up ky (fun i => ya (j * 4 + i)) 4) (ay := ay) (yl := yl) (yh := yh) (ya := ya) (yc := yc) hj hA
        exact br_f e0 (br_t e1 (br_f h0 (br_f (nI_ge hj (by omega)) (br_f qa_10 (br_f e0 (hX _ (hX2 _ (br_f e0 (br_t e1 (br_f h0 (br_t (nI_lt hj (by omega)) (br_t rfl (br_f e0 (hY _ (hY2 _ ⟨rfl, qr_mk ⟨⟨hM1, hM8, hN, hC, hD, by omega⟩, hlg', hwr, hco, hrh, hcf, hgo, hF, hdp, hbl, hbh, qa_Bsh han, qa_Bsh hxl, qa_Bsh hxh, qr_Cack hkx hK hj, hax, qr_Ksh hK hj, qr_Rsh hR hj⟩⟩)))))))))))))))
    · exact br_f e0 (br_f e1 (br_t rfl (br_f e0 (br_f e1 (br_f qa_10 ⟨rfl, qr_mk hI⟩)))))
end QK
end
section
section QS
variable {sw cw mp ld nx lg nw ls sp bc vi dc ak kc ac : Int32} {wr hg sb mk kx st ss fo fl cb cf co rh ax go bl bh dp an xl xh xc ky ay yl yh ya yc : Nat → Int32}
/-! credits raised -/
theorem qs_x1 {post : SX → Prop} (h : post (sw, cw, mp, ld, nx, lg, nw, ls, sp, bc, vi, dc, ak, wr, hg, sb, mk, kx, st, ss, fo, fl, cb, cf, co, rh, upd (qa_up ax (fun j => qa_mn 32 (co j + sw)) 4) 4 (qa_mx (ax 4) (qa_mn 128 (qv_sm co + cw))), go, bl, bh, dp, an, xl, xh, xc)) : ∀ d k : Nat, k + d = 4 → wX_raiseAdvertisedCredit_2 post sw cw mp ld nx lg nw ls sp bc vi dc ak (d + 1) (nI k) wr hg sb mk kx st ss fo fl cb cf co rh (qa_up ax (fun j => qa_mn 32 (co j + sw)) k) go bl bh dp an xl xh xc := by
  intro d
  induction d with
  | zero =>
    intro k hk
    obtain rfl : k = 4 := by omega
    have e : upd (qa_up ax (fun j => qa_mn 32 (co j + sw)) 4) 4 (qa_mx (qa_up ax (fun j => qa_mn 32 (co j + sw)) 4 4) (qa_mn 128 (qv_sm co + cw))) = upd (qa_up ax (fun j => qa_mn 32 (co j + sw)) 4) 4 (qa_mx (ax 4) (qa_mn 128 (qv_sm co + cw))) := by rw [qa_upn (Nat.le_refl 4)]
    exact br_t (qm_g4 (by omega) (by omega)) (qv_sX2 (nm_e (qv_le (qv_gr (nm_r e h)))))
  | succ d ih =>
    intro k hk
    have h4 : vp_in (nI k) 4 := vp_in_nI (by omega) (by omega)
    have h5 : vp_in (nI k) 5 := vp_in_nI (by omega) (by omega)
    have e : upd (qa_up ax (fun j => qa_mn 32 (co j + sw)) k) (nI k).toNatClampNeg (qa_mx (qa_up ax (fun j => qa_mn 32 (co j + sw)) k (nI k).toNatClampNeg) (qa_mn 32 (co (nI k).toNatClampNeg + sw))) = qa_up ax (fun j => qa_mn 32 (co j + sw)) (k + 1) := by
      rw [nI_clamp (by omega), qa_upn (Nat.le_refl k)]
      exact qa_ups (g := (fun j => qa_mn 32 (co j + sw)))
    exact br_f (qm_l4 (by omega)) ⟨h4, qv_le ⟨h5, qv_gr ⟨h5, nm_r e (nm_r (nI_1 k) (ih (k + 1) (by omega)))⟩⟩⟩
theorem qs_xr {post : SX → Prop} (h : post (sw, cw, mp, ld, nx, lg, nw, ls, sp, bc, vi, dc, ak, wr, hg, sb, mk, kx, st, ss, fo, fl, cb, cf, co, rh, upd (qa_up ax (fun j => qa_mn 32 (co j + sw)) 4) 4 (qa_mx (ax 4) (qa_mn 128 (qv_sm co + cw))), go, bl, bh, dp, an, xl, xh, xc)) : wpX_raiseAdvertisedCredit post (sw, cw, mp, ld, nx, lg, nw, ls, sp, bc, vi, dc, ak, wr, hg, sb, mk, kx, st, ss, fo, fl, cb, cf, co, rh, ax, go, bl, bh, dp, an, xl, xh, xc) := by
  have := qs_x1 h 4 0 rfl
  rw [qa_up0] at this
  exact ⟨5, this⟩
def qs_t (a : Nat → Int32) : Nat → Int32
  | 0 => 0
  | k + 1 => qs_t a k + a k
theorem qs_t4 (a : Nat → Int32) : qs_t a 4 = qv_sm a := by
  have e0 : (0 : Int32).toNatClampNeg = 0 := by decide
  have e1 : (1 : Int32).toNatClampNeg = 1 := by decide
  have e2 : (2 : Int32).toNatClampNeg = 2 := by decide
  have e3 : (3 : Int32).toNatClampNeg = 3 := by decide
  unfold qv_sm
  rw [e0, e1, e2, e3]
  rfl
theorem qs_41 {k : Nat} (hk : k < 4) {post : Int32 → SY → Prop} {J : Int32 → Int32 → qt_B} (h : J (qs_t co (k + 1)) (nI (k + 1)) sb mk wr hg ky st ss fo fl cb cf co rh (qa_up ay (fun j => qa_mn 32 (co j + sw)) (k + 1)) go bl bh dp an yl yh ya yc) : wY_sendAck_41 post J (qs_t co k) (nI k) (qa_mn 32 (co (nI k).toNatClampNeg + sw)) sw cw mp ld kc nx lg nw ls sp ac vi bc dc ak sb mk wr hg ky st ss fo fl cb cf co rh (qa_up ay (fun j => qa_mn 32 (co j + sw)) k) go bl bh dp an yl yh ya yc := by
  have h4 : vp_in (nI k) 4 := vp_in_nI (by omega) (by omega)
  have ec : (nI k).toNatClampNeg = k := nI_clamp (by omega)
  have et : qs_t co k + co (nI k).toNatClampNeg = qs_t co (k + 1) := by rw [ec]; rfl
  have ev : qa_up ay (fun j => qa_mn 32 (co j + sw)) k (nI k).toNatClampNeg = ay k := by rw [ec, qa_upn (Nat.le_refl k)]
  by_cases z : qa_mn 32 (co (nI k).toNatClampNeg + sw) ≤ qa_up ay (fun j => qa_mn 32 (co j + sw)) k (nI k).toNatClampNeg
  · have z2 := z
    rw [ev, ec] at z2
    have eu : qa_up ay (fun j => qa_mn 32 (co j + sw)) (k + 1) = qa_up ay (fun j => qa_mn 32 (co j + sw)) k := qa_upk (f := ay) (g := (fun j => qa_mn 32 (co j + sw))) (n := k) (qa_mx2 (a := ay k) (b := qa_mn 32 (co k + sw)) (Int32.not_lt.mpr z2))
    rw [eu] at h
    exact ⟨h4, br_t z ⟨h4, nm_r et (nm_r (nI_1 k) h)⟩⟩
  · have z2 := z
    rw [ev, ec] at z2
    have e : upd (qa_up ay (fun j => qa_mn 32 (co j + sw)) k) (nI k).toNatClampNeg (qa_mn 32 (co (nI k).toNatClampNeg + sw)) = qa_up ay (fun j => qa_mn 32 (co j + sw)) (k + 1) := by
      rw [ec, ← qa_ups (f := ay) (g := (fun j => qa_mn 32 (co j + sw))) (n := k)]
      exact congrArg (upd _ k) (qa_mx1 (a := ay k) (b := qa_mn 32 (co k + sw)) (Int32.not_le.mp z2)).symm
    exact ⟨h4, br_f z ⟨h4, nm_r e ⟨h4, nm_r et (nm_r (nI_1 k) h)⟩⟩⟩
theorem qs_91 {x : Int32} {post : Int32 → SY → Prop} (h : ∃ n, wY_sendAck_113 post sw cw mp ld kc nx lg nw ls sp (qa_mx ac x) vi bc dc ak n 0 0 63 sb mk wr hg ky st ss fo fl cb cf co rh ay go bl bh dp an yl yh ya yc) : wY_sendAck_91 post x sw cw mp ld kc nx lg nw ls sp ac vi bc dc ak sb mk wr hg ky st ss fo fl cb cf co rh ay go bl bh dp an yl yh ya yc := by
  by_cases z : x ≤ ac
  · rw [qa_mx2 (Int32.not_lt.mpr z)] at h
    exact br_t z h
  · rw [qa_mx1 (Int32.not_le.mp z)] at h
    exact br_f z h
theorem qs_y1 {post : Int32 → SY → Prop} (h : ∃ n, wY_sendAck_113 post sw cw mp ld kc nx lg nw ls sp (qa_mx ac (qa_mn 128 (qv_sm co + cw))) vi bc dc ak n 0 0 63 sb mk wr hg ky st ss fo fl cb cf co rh (qa_up ay (fun j => qa_mn 32 (co j + sw)) 4) go bl bh dp an yl yh ya yc) : ∀ d k : Nat, k + d = 4 → wY_sendAck_15 post sw cw mp ld kc nx lg nw ls sp ac vi bc dc ak (d + 1) (qs_t co k) (nI k) sb mk wr hg ky st ss fo fl cb cf co rh (qa_up ay (fun j => qa_mn 32 (co j + sw)) k) go bl bh dp an yl yh ya yc := by
  intro d
  induction d with
  | zero =>
    intro k hk
    obtain rfl : k = 4 := by omega
    refine br_t (qm_g4 (by omega) (by omega)) (nm_r (by rw [qs_t4]) ?_)
    by_cases z : qv_sm co + cw ≤ 128
    · rw [qa_mn3 z] at h
      exact br_t z (qs_91 h)
    · rw [qa_mn4 z] at h
      exact br_f z (qs_91 h)
  | succ d ih =>
    intro k hk
    have h4 : vp_in (nI k) 4 := vp_in_nI (by omega) (by omega)
    have I := qs_41 (sw := sw) (cw := cw) (mp := mp) (ld := ld) (nx := nx) (lg := lg) (nw := nw) (ls := ls) (sp := sp) (bc := bc) (vi := vi) (dc := dc) (ak := ak) (wr := wr) (hg := hg) (sb := sb) (mk := mk) (st := st) (ss := ss) (fo := fo) (fl := fl) (cb := cb) (cf := cf) (co := co) (rh := rh) (go := go) (bl := bl) (bh := bh) (dp := dp) (an := an) (kc := kc) (ac := ac) (ky := ky) (ay := ay) (yl := yl) (yh := yh) (ya := ya) (yc := yc) (post := post) (k := k) (by omega) (ih (k + 1) (by omega))
    refine br_f (qm_l4 (by omega)) ⟨h4, nm_e ?_⟩
    by_cases z : co (nI k).toNatClampNeg + sw ≤ 32
    · rw [qa_mn3 z] at I
      exact br_t z I
    · rw [qa_mn4 z] at I
      exact br_f z I
theorem qs_yr {post : Int32 → SY → Prop} (h : ∃ n, wY_sendAck_113 post sw cw mp ld kc nx lg nw ls sp (qa_mx ac (qa_mn 128 (qv_sm co + cw))) vi bc dc ak n 0 0 63 sb mk wr hg ky st ss fo fl cb cf co rh (qa_up ay (fun j => qa_mn 32 (co j + sw)) 4) go bl bh dp an yl yh ya yc) : ∃ n, wY_sendAck_15 post sw cw mp ld kc nx lg nw ls sp ac vi bc dc ak n 0 0 sb mk wr hg ky st ss fo fl cb cf co rh ay go bl bh dp an yl yh ya yc := by
  have := qs_y1 h 4 0 rfl
  rw [qa_up0] at this
  exact ⟨5, this⟩
/-! the ranges -/
theorem qs_rg (hgo : qa_B go 1) : ∀ (d c n : Nat) (xi yi : Int32) (bl bh : Nat → Int32), d ≤ 64 → (xi = 0 ∧ yi = 0 ∧ c = n ∧ n ≤ 4) ∨ (¬ xi = 0 ∧ ¬ yi = 0 ∧ c = n + 1 ∧ n < 4) → qa_B bl 63 → qa_B bh 63 → ∃ C bl' bh', C ≤ 4 ∧ qa_B bl' 63 ∧ qa_B bh' 63 ∧ (∀ post : SX → Prop, post (sw, cw, mp, ld, nx, lg, nw, ls, sp, nI C, vi, dc, ak, wr, hg, sb, mk, kx, st, ss, fo, fl, cb, cf, co, rh, ax, go, bl', bh', dp, an, xl, xh, xc) → wX_buildRanges_7 post sw cw mp ld nx lg nw ls sp bc vi dc ak (d + 1) (nI c) xi (nI d + (-1)) wr hg sb mk kx st ss fo fl cb cf co rh ax go bl bh dp an xl xh xc) ∧ (∀ post : Int32 → SY → Prop, wY_sendAck_199 post (nI C) sw cw mp ld kc nx lg nw ls sp ac vi bc dc ak sb mk wr hg ky st ss fo fl cb cf co rh ay go bl' bh' dp an yl yh ya yc → wY_sendAck_113 post sw cw mp ld kc nx lg nw ls sp ac vi bc dc ak (d + 1) (nI n) yi (nI d + (-1)) sb mk wr hg ky st ss fo fl cb cf co rh ay go bl bh dp an yl yh ya yc) := by
  intro d
  induction d with
  | zero =>
    intro c n xi yi bl bh hd hc hbl hbh
    have hm : nI 0 + (-1) < 0 := by decide
    rcases hc with ⟨x0, y0, rfl, hn⟩ | ⟨x0, y0, rfl, hn⟩
    · exact ⟨c, bl, bh, hn, hbl, hbh, fun post h => br_t hm h, fun post h => br_t hm (br_t y0 h)⟩
    · exact ⟨n + 1, bl, bh, by omega, hbl, hbh, fun post h => br_t hm h, fun post h => br_t hm (br_f y0 (nm_r (nI_1 n) h))⟩
  | succ p ih =>
    intro c n xi yi bl bh hd hc hbl hbh
    rw [pk_m1 p]
    have h0 : ¬ nI p < 0 := nI_pos (by omega)
    have hi : vp_in (nI p) 64 := vp_in_nI (by omega) (by omega)
    by_cases g : go (nI p).toNatClampNeg = 0
    · rcases hc with ⟨x0, y0, rfl, hn⟩ | ⟨x0, y0, rfl, hn⟩
      · obtain ⟨C, bl', bh', hC, hl, hh, hX, hY⟩ := ih c c (go (nI p).toNatClampNeg) yi bl bh (by omega) (Or.inl ⟨g, y0, rfl, hn⟩) hbl hbh
        exact ⟨C, bl', bh', hC, hl, hh, fun post h => br_f h0 ⟨hi, br_t g ⟨hi, br_t g ⟨hi, nm_e (nm_e (hX post h))⟩⟩⟩, fun post h => br_f h0 ⟨hi, br_t g (br_t y0 (nm_e (hY post h)))⟩⟩
      · obtain ⟨C, bl', bh', hC, hl, hh, hX, hY⟩ := ih (n + 1) (n + 1) (go (nI p).toNatClampNeg) 0 bl bh (by omega) (Or.inl ⟨g, rfl, rfl, by omega⟩) hbl hbh
        exact ⟨C, bl', bh', hC, hl, hh, fun post h => br_f h0 ⟨hi, br_t g ⟨hi, br_t g ⟨hi, nm_e (nm_e (hX post h))⟩⟩⟩, fun post h => br_f h0 ⟨hi, br_t g (br_f y0 (nm_r (nI_1 n) (nm_e (hY post h))))⟩⟩
    · rcases hc with ⟨x0, y0, rfl, hn⟩ | ⟨x0, y0, rfl, hn⟩
      · by_cases z : nI c = 4
        · exact ⟨c, bl, bh, hn, hbl, hbh, fun post h => br_f h0 ⟨hi, br_f g (br_t x0 (br_t z h))⟩, fun post h => br_f h0 ⟨hi, br_f g (br_t y0 (br_t z (br_t y0 h)))⟩⟩
        · have hc4 : c < 4 := by
            rcases Nat.lt_or_ge c 4 with l | l
            · exact l
            · exact absurd ((qa_eq_4 (by omega)).mpr (by omega)) z
          have h4 : vp_in (nI c) 4 := vp_in_nI hc4 (by omega)
          have em : nI (c + 1) - 1 = nI c := nI_pred c
          obtain ⟨C, bl', bh', hC, hl, hh, hX, hY⟩ := ih (c + 1) c (go (nI p).toNatClampNeg) 1 (upd bl (nI c).toNatClampNeg (nI p)) (upd bh (nI c).toNatClampNeg (nI p)) (by omega) (Or.inr ⟨g, qa_10, rfl, hc4⟩) (qa_Bu hbl (by omega)) (qa_Bu hbh (by omega))
          exact ⟨C, bl', bh', hC, hl, hh, fun post h => br_f h0 ⟨hi, br_f g (br_t x0 (br_f z ⟨h4, nm_e (nm_r (nI_1 c) ⟨hi, br_f g ⟨by rw [em]; exact h4, nm_r (by rw [em]) ⟨hi, nm_e (nm_e (hX post h))⟩⟩⟩)⟩))⟩, fun post h => br_f h0 ⟨hi, br_f g (br_t y0 (br_f z ⟨h4, nm_e ⟨h4, nm_e (nm_e (hY post h))⟩⟩))⟩⟩
      · have h4 : vp_in (nI n) 4 := vp_in_nI hn (by omega)
        have em : nI (n + 1) - 1 = nI n := nI_pred n
        obtain ⟨C, bl', bh', hC, hl, hh, hX, hY⟩ := ih (n + 1) n (go (nI p).toNatClampNeg) yi (upd bl (nI n).toNatClampNeg (nI p)) bh (by omega) (Or.inr ⟨g, y0, rfl, hn⟩) (qa_Bu hbl (by omega)) hbh
        exact ⟨C, bl', bh', hC, hl, hh, fun post h => br_f h0 ⟨hi, br_f g (br_f x0 ⟨hi, br_f g ⟨by rw [em]; exact h4, nm_r (by rw [em]) ⟨hi, nm_e (nm_e (hX post h))⟩⟩⟩)⟩, fun post h => br_f h0 ⟨hi, br_f g (br_f y0 ⟨h4, nm_e (nm_e (hY post h))⟩)⟩⟩
theorem qs_rgM (hgo : qa_B go 1) (hbl : qa_B bl 63) (hbh : qa_B bh 63) : ∃ C bl' bh', C ≤ 4 ∧ qa_B bl' 63 ∧ qa_B bh' 63 ∧ (∀ post : SX → Prop, post (sw, cw, mp, ld, nx, lg, nw, ls, sp, nI C, vi, dc, ak, wr, hg, sb, mk, kx, st, ss, fo, fl, cb, cf, co, rh, ax, go, bl', bh', dp, an, xl, xh, xc) → wpX_buildRanges post (sw, cw, mp, ld, nx, lg, nw, ls, sp, bc, vi, dc, ak, wr, hg, sb, mk, kx, st, ss, fo, fl, cb, cf, co, rh, ax, go, bl, bh, dp, an, xl, xh, xc)) ∧ (∀ post : Int32 → SY → Prop, wY_sendAck_199 post (nI C) sw cw mp ld kc nx lg nw ls sp ac vi bc dc ak sb mk wr hg ky st ss fo fl cb cf co rh ay go bl' bh' dp an yl yh ya yc → ∃ n, wY_sendAck_113 post sw cw mp ld kc nx lg nw ls sp ac vi bc dc ak n 0 0 63 sb mk wr hg ky st ss fo fl cb cf co rh ay go bl bh dp an yl yh ya yc) := by
  obtain ⟨C, bl', bh', hC, hl, hh, hX, hY⟩ := qs_rg (sw := sw) (cw := cw) (mp := mp) (ld := ld) (nx := nx) (lg := lg) (nw := nw) (ls := ls) (sp := sp) (bc := bc) (vi := vi) (dc := dc) (ak := ak) (wr := wr) (hg := hg) (sb := sb) (mk := mk) (kx := kx) (st := st) (ss := ss) (fo := fo) (fl := fl) (cb := cb) (cf := cf) (co := co) (rh := rh) (ax := ax) (go := go) (dp := dp) (an := an) (xl := xl) (xh := xh) (xc := xc) (kc := kc) (ac := ac) (ky := ky) (ay := ay) (yl := yl) (yh := yh) (ya := ya) (yc := yc) hgo 64 0 0 0 0 bl bh (by omega) (Or.inl ⟨rfl, rfl, rfl, by omega⟩) hbl hbh
  rw [pk_m1 63] at hX hY
  exact ⟨C, bl', bh', hC, hl, hh, fun post h => ⟨65, hX post h⟩, fun post h => ⟨65, hY post h⟩⟩
/-! put into the channel -/
theorem qs_e {d s : Nat → Int32} {p n : Nat} {x y : Int32} (hx : x = nI (p + n)) (hy : y = nI n) (h : p + n < 2 ^ 31) : upd (qa_cp d s p n) x.toNatClampNeg (s y.toNatClampNeg) = qa_cp d s p (n + 1) := by
  subst hx hy
  rw [nI_clamp h, nI_clamp (by omega)]
  exact qa_cps
theorem qs_p2 {A : Nat} (hA : A < 8) {post : SX → Prop} (h : post (sw, cw, mp, ld, nx, lg, nw, ls, sp, bc, vi, dc, nI (A + 1), wr, hg, sb, mk, kx, st, ss, fo, fl, cb, cf, co, rh, ax, go, bl, bh, dp, an, xl, xh, qa_cp xc ax (A * 5) 5)) : ∀ d k : Nat, k + d = 5 → wX_putAck_69 post sw cw mp ld nx lg nw ls sp bc vi dc (nI A) (d + 1) (nI k) wr hg sb mk kx st ss fo fl cb cf co rh ax go bl bh dp an xl xh (qa_cp xc ax (A * 5) k) := by
  intro d
  induction d with
  | zero =>
    intro k hk
    obtain rfl : k = 5 := by omega
    exact br_t (nI_le (a := 5) (by omega) (by omega)) (nm_r (nI_1 A) h)
  | succ d ih =>
    intro k hk
    have e1 : nI A * 5 + nI k = nI (A * 5 + k) := by rw [qa_m_5, nI_add]
    exact br_f (nI_ge (b := 5) (by omega) (by omega)) ⟨vp_in_nI (by omega) (by omega), pk_in (A * 5 + k) 40 (by omega) e1, nm_r (qs_e e1 rfl (by omega)) (nm_r (nI_1 k) (ih (k + 1) (by omega)))⟩
theorem qs_p1 {A C : Nat} (hA : A < 8) (hC : C ≤ 4) {post : SX → Prop} (h : post (sw, cw, mp, ld, nx, lg, nw, ls, sp, nI C, vi, dc, nI (A + 1), wr, hg, sb, mk, kx, st, ss, fo, fl, cb, cf, co, rh, ax, go, bl, bh, dp, an, qa_cp xl bl (A * 4) C, qa_cp xh bh (A * 4) C, qa_cp xc ax (A * 5) 5)) : ∀ d k : Nat, k + d = C → wX_putAck_15 post sw cw mp ld nx lg nw ls sp (nI C) vi dc (nI A) (d + 1) (nI k) wr hg sb mk kx st ss fo fl cb cf co rh ax go bl bh dp an (qa_cp xl bl (A * 4) k) (qa_cp xh bh (A * 4) k) xc := by
  intro d
  induction d with
  | zero =>
    intro k hk
    obtain rfl : k = C := by omega
    have := qs_p2 hA h 5 0 rfl
    rw [qa_cp0] at this
    exact br_t (nI_le (by omega) (by omega)) ⟨6, this⟩
  | succ d ih =>
    intro k hk
    have e1 : nI A * 4 + nI k = nI (A * 4 + k) := by rw [qa_m_4, nI_add]
    have h4 : vp_in (nI k) 4 := vp_in_nI (by omega) (by omega)
    have h32 : vp_in (nI A * 4 + nI k) 32 := pk_in (A * 4 + k) 32 (by omega) e1
    exact br_f (nI_ge (by omega) (by omega)) ⟨h4, h32, nm_r (qs_e e1 rfl (by omega)) ⟨h4, h32, nm_r (qs_e e1 rfl (by omega)) (nm_r (nI_1 k) (ih (k + 1) (by omega)))⟩⟩
theorem qs_p {A C : Nat} (hA : A < 8) (hC : C ≤ 4) {post : SX → Prop} (h : post (sw, cw, mp, ld, nx, lg, nw, ls, sp, nI C, vi, dc, nI (A + 1), wr, hg, sb, mk, kx, st, ss, fo, fl, cb, cf, co, rh, ax, go, bl, bh, dp, upd an A (nI C), qa_cp xl bl (A * 4) C, qa_cp xh bh (A * 4) C, qa_cp xc ax (A * 5) 5)) : wpX_putAck post (sw, cw, mp, ld, nx, lg, nw, ls, sp, nI C, vi, dc, nI A, wr, hg, sb, mk, kx, st, ss, fo, fl, cb, cf, co, rh, ax, go, bl, bh, dp, an, xl, xh, xc) := by
  have := qs_p1 hA hC h C 0 (by omega)
  rw [qa_cp0, qa_cp0] at this
  exact ⟨vp_in_nI hA (by omega), nm_r (by rw [nI_clamp (by omega)]) ⟨C + 1, this⟩⟩
theorem qs_q1 {A : Nat} (hA : A < 8) {x : Int32} {post : Int32 → SY → Prop} (h : post x (sw, cw, mp, ld, kc, nx, lg, nw, ls, sp, ac, vi, bc, dc, nI (A + 1), sb, mk, wr, hg, ky, st, ss, fo, fl, cb, cf, co, rh, ay, go, bl, bh, dp, an, qa_cp yl bl (A * 4) 4, qa_cp yh bh (A * 4) 4, qa_cp ya ay (A * 4) 4, yc)) : ∀ d k : Nat, k + d = 4 → wY_sendAck_232 post x (nI A) sw cw mp ld kc nx lg nw ls sp ac vi bc dc (nI A) (d + 1) (nI k) sb mk wr hg ky st ss fo fl cb cf co rh ay go bl bh dp an (qa_cp yl bl (A * 4) k) (qa_cp yh bh (A * 4) k) (qa_cp ya ay (A * 4) k) yc := by
  intro d
  induction d with
  | zero =>
    intro k hk
    obtain rfl : k = 4 := by omega
    exact br_t (qm_g4 (by omega) (by omega)) (nm_r (nI_1 A) h)
  | succ d ih =>
    intro k hk
    have e1 : nI A * 4 + nI k = nI (A * 4 + k) := by rw [qa_m_4, nI_add]
    have h4 : vp_in (nI k) 4 := vp_in_nI (by omega) (by omega)
    have h32 : vp_in (nI A * 4 + nI k) 32 := pk_in (A * 4 + k) 32 (by omega) e1
    exact br_f (qm_l4 (by omega)) ⟨h4, h32, nm_r (qs_e e1 rfl (by omega)) ⟨h4, h32, nm_r (qs_e e1 rfl (by omega)) ⟨h4, h32, nm_r (qs_e e1 rfl (by omega)) (nm_r (nI_1 k) (ih (k + 1) (by omega)))⟩⟩⟩
theorem qs_q {A : Nat} (hA : A < 8) {x : Int32} {post : Int32 → SY → Prop} (h : post x (sw, cw, mp, ld, kc, nx, lg, nw, ls, sp, ac, vi, x, dc, nI (A + 1), sb, mk, wr, hg, ky, st, ss, fo, fl, cb, cf, co, rh, ay, go, bl, bh, dp, upd an A x, qa_cp yl bl (A * 4) 4, qa_cp yh bh (A * 4) 4, qa_cp ya ay (A * 4) 4, upd yc A ac)) : wY_sendAck_199 post x sw cw mp ld kc nx lg nw ls sp ac vi bc dc (nI A) sb mk wr hg ky st ss fo fl cb cf co rh ay go bl bh dp an yl yh ya yc := by
  have := qs_q1 hA h 4 0 (by omega)
  rw [qa_cp0, qa_cp0, qa_cp0] at this
  have h8 : vp_in (nI A) 8 := vp_in_nI hA (by omega)
  exact ⟨h8, nm_r (by rw [nI_clamp (by omega)]) ⟨h8, nm_r (by rw [nI_clamp (by omega)]) ⟨5, this⟩⟩⟩

theorem i_vc_sendAck {k : Nat} {u : SX} {v : SY} (I : i_Rel k u v) (hk : k + 3 ≤ 1540) : wpX_sendAck (fun r u' => wpY_sendAck (fun r' v' => r' = r ∧ i_Rel (k + 3) u' v') v) u := by
  obtain ⟨M, N, C, D, A, sw, cw, ld, lg, nw, ls, sp, vi, kc, ac, wr, hg, sb, mk, kx, st, ss, fo, fl, cb, cf, co, rh, ax, go, bl, bh, dp, an, xl, xh, xc, ky, ay, yl, yh, ya, yc, rfl, rfl, hI⟩ := I
  obtain ⟨⟨hM1, hM8, hN, hC, hD, hA⟩, hlg, hwr, hco, hrh, hcf, hgo, hF, hdp, hbl, hbh, han, hxl, hxh, hkx, hax, hK, hR⟩ := id hI
  by_cases h8 : A = 8
  · subst h8
    exact br_t rfl (br_t rfl ⟨rfl, qr_mk hI⟩)
  · have hA' : A < 8 := by omega
    have hne : ¬ nI A = 8 := fun z => h8 ((qa_eq_8 (by omega)).mp z)
    have hax' := qr_Cup (g := (fun j => qa_mn 32 (co j + sw))) (z := (qa_mn 128 (qv_sm co + cw))) hax
    obtain ⟨C', bl', bh', hC', hbl', hbh', hX, hY⟩ := qs_rgM (sw := sw) (cw := cw) (mp := nI M) (ld := ld) (nx := nI N) (lg := lg) (nw := nw) (ls := ls) (sp := sp) (bc := nI C) (vi := vi) (dc := nI D) (ak := nI A) (wr := wr) (hg := hg) (sb := sb) (mk := mk) (kx := kx) (st := st) (ss := ss) (fo := fo) (fl := fl) (cb := cb) (cf := cf) (co := co) (rh := rh) (ax := upd (qa_up ax (fun j => qa_mn 32 (co j + sw)) 4) 4 (qa_mx (ax 4) (qa_mn 128 (qv_sm co + cw)))) (go := go) (bl := bl) (bh := bh) (dp := dp) (an := an) (xl := xl) (xh := xh) (xc := xc) (kc := kc) (ac := qa_mx ac (qa_mn 128 (qv_sm co + cw))) (ky := ky) (ay := qa_up ay (fun j => qa_mn 32 (co j + sw)) 4) (yl := yl) (yh := yh) (ya := ya) (yc := yc) hgo hbl hbh
    exact br_f hne (qs_xr (hX _ (qs_p hA' hC' (br_f hne (qs_yr (hY _ (qs_q hA' ⟨rfl, qr_mk ⟨⟨hM1, hM8, hN, hC', hD, hA'⟩, hlg, hwr, hco, hrh, hcf, hgo, hF, hdp, hbl', hbh', qa_Bu han hC', qa_Bcp hxl hbl', qa_Bcp hxh hbh', hkx, hax', qr_Kcp hK hax', qr_Rcp hR hC'⟩⟩)))))))
end QS
end
section
section QP
variable {sw cw mp ld nx lg nw ls sp bc vi dc ak kc ac : Int32} {wr hg sb mk kx st ss fo fl cb cf co rh ax go bl bh dp an xl xh xc ky ay yl yh ya yc : Nat → Int32}
theorem qp_fp {s w : Nat} (hs : s < 4) (hw : w ≤ 32) (ew : wr (nI s).toNatClampNeg = nI w) : ∀ d j : Nat, j + d = w → ∃ q, q ≤ w ∧ (∀ post : Int32 → Prop, post (nI q) → wX_firstPending_2 post (nI s) sw cw mp ld nx lg nw ls sp bc vi dc ak wr hg sb mk kx st ss fo fl cb cf co rh ax go bl bh dp an xl xh xc (d + 1) (nI j)) ∧ (∀ post : Int32 → Prop, (q < w → post (nI q)) → (q = w → post (-1)) → wY_firstPending_2 post (nI s) sw cw mp ld kc nx lg nw ls sp ac vi bc dc ak sb mk wr hg ky st ss fo fl cb cf co rh ay go bl bh dp an yl yh ya yc (d + 1) (nI j)) := by
  intro d
  have h4 : vp_in (nI s) 4 := vp_in_nI hs (by omega)
  induction d with
  | zero =>
    intro j hj
    have h : wr (nI s).toNatClampNeg ≤ nI j := by rw [ew]; exact nI_le (by omega) (by omega)
    exact ⟨w, Nat.le_refl w, fun post hp => ⟨h4, br_t h ⟨h4, by rw [ew]; exact hp⟩⟩, fun post h1 h2 => ⟨h4, br_t h (h2 rfl)⟩⟩
  | succ d ih =>
    intro j hj
    have h : ¬ wr (nI s).toNatClampNeg ≤ nI j := by rw [ew]; exact nI_ge (by omega) (by omega)
    have hi : vp_in (nI s * 32 + nI j) 128 := ql_ix32 hs (by omega)
    by_cases z : mk (nI s * 32 + nI j).toNatClampNeg = 1
    · exact ⟨j, by omega, fun post hp => ⟨h4, br_f h ⟨hi, br_t z hp⟩⟩, fun post h1 h2 => ⟨h4, br_f h ⟨hi, br_t z (h1 (by omega))⟩⟩⟩
    · obtain ⟨q, hq, hX, hY⟩ := ih (j + 1) (by omega)
      exact ⟨q, hq, fun post hp => ⟨h4, br_f h ⟨hi, br_f z (nm_r (nI_1 j) (hX post hp))⟩⟩, fun post h1 h2 => ⟨h4, br_f h ⟨hi, br_f z (nm_r (nI_1 j) (hY post h1 h2))⟩⟩⟩
theorem qp_mx1 {x : Nat} {h : Int32} (hx : x < 100) (z : nI x < h) : qa_mx h (nI x + 1) = h := by
  refine qa_mx2 ?_
  rw [nI_1, Int32.lt_iff_toInt_lt, nI_toInt (by omega)]
  rw [Int32.lt_iff_toInt_lt, nI_toInt (by omega)] at z
  omega
theorem qp_mx2 {x : Nat} {h : Int32} (hx : x < 100) (z : ¬ nI x < h) : qa_mx h (nI x + 1) = nI x + 1 := by
  refine qa_mx1 ?_
  rw [nI_1, Int32.lt_iff_toInt_lt, nI_toInt (by omega)]
  rw [Int32.lt_iff_toInt_lt, nI_toInt (by omega)] at z
  omega
/-- one frame -/
theorem qp_in {s w q B : Nat} (hs : s < 4) (hw : w ≤ 32) (ew : wr (nI s).toNatClampNeg = nI w) (hB : B ≤ 8) (hkx : qr_C kx ky kc) : ∀ (d len : Nat) (mk hg : Nat → Int32), q + len + d = w → len ≤ B → ∃ len' mk' hg', len' ≤ B ∧ q + len' ≤ w ∧ (∀ post : Int32 → SX → Prop, wX_packFrame_84 post (nI s) (nI q) (nI len') sw cw mp ld nx lg nw ls sp bc vi dc ak wr hg' sb mk' kx st ss fo fl cb cf co rh ax go bl bh dp an xl xh xc → wX_packFrame_20 post (nI s) (nI B) (nI q) (nI w) sw cw mp ld nx lg nw ls sp bc vi dc ak (d + 1) (nI len) (nI (q + len)) wr hg sb mk kx st ss fo fl cb cf co rh ax go bl bh dp an xl xh xc) ∧ (∀ (post : Int32 → SY → Prop) (J : Int32 → Int32 → Int32 → qt_B) (x1 x3 : Int32), wY_sendData_205 post J x1 (nI (B - len')) x3 (nI s) (nI q) (nI len') sw cw mp ld kc nx lg nw ls sp ac vi bc dc ak sb mk' wr hg' ky st ss fo fl cb cf co rh ay go bl bh dp an yl yh ya yc → wY_sendData_71 post J x1 x3 (nI s) (nI q) sw cw mp ld kc nx lg nw ls sp ac vi bc dc ak (d + 1) (nI (B - len)) (nI len) sb mk wr hg ky st ss fo fl cb cf co rh ay go bl bh dp an yl yh ya yc) := by
  intro d
  have h4 : vp_in (nI s) 4 := vp_in_nI hs (by omega)
  have h5 : vp_in (nI s) 5 := vp_in_nI (by omega) (by omega)
  have e : kx (nI s).toNatClampNeg = ky (nI s).toNatClampNeg := by rw [qv_cl hs]; exact hkx.1 s hs
  have e4 : kx 4 = kc := hkx.2
  induction d with
  | zero =>
    intro len mk hg hq hl
    have hX : nI w ≤ nI (q + len) := nI_le (by omega) (by omega)
    refine ⟨len, mk, hg, hl, by omega, fun post h => br_t hX h, fun post J x1 x3 h => ?_⟩
    by_cases b : B ≤ len
    · exact br_t ((qa_le_0 (by omega)).mpr (by omega)) h
    · refine br_f (fun z => absurd ((qa_le_0 (by omega)).mp z) (by omega)) ?_
      by_cases c : 32 ≤ len
      · exact br_t ((qa_ge_32 (by omega)).mpr c) h
      · exact br_f (fun z => absurd ((qa_ge_32 (by omega)).mp z) c) (nm_r (nI_add q len) ⟨h4, br_t (by rw [ew]; exact hX) h⟩)
  | succ d ih =>
    intro len mk hg hq hl
    have hX : ¬ nI w ≤ nI (q + len) := nI_ge (by omega) (by omega)
    have hY : ¬ wr (nI s).toNatClampNeg ≤ nI (q + len) := by rw [ew]; exact hX
    have hi : vp_in (nI s * 32 + nI (q + len)) 128 := ql_ix32 hs (by omega)
    by_cases b : B ≤ len
    · exact ⟨len, mk, hg, hl, by omega, fun post h => br_f hX (br_t (nI_le b (by omega)) h), fun post J x1 x3 h => br_t ((qa_le_0 (by omega)).mpr (by omega)) h⟩
    · have b1 : ¬ nI B ≤ nI len := nI_ge (by omega) (by omega)
      have b2 : ¬ nI (B - len) ≤ 0 := fun z => absurd ((qa_le_0 (by omega)).mp z) (by omega)
      have b3 : ¬ 32 ≤ nI len := fun z => absurd ((qa_ge_32 (by omega)).mp z) (by omega)
      have b4 : nI (B - len) + (-1) = nI (B - (len + 1)) := by
        rw [qa_m1 (by omega)]
        exact congrArg nI (by omega)
      by_cases M1 : mk (nI s * 32 + nI (q + len)).toNatClampNeg = 1
      · by_cases K : nI (q + len) < kx (nI s).toNatClampNeg
        · have K' : nI (q + len) < ky (nI s).toNatClampNeg := by rw [← e]; exact K
          obtain ⟨len', mk', hg', hl', hq', hX1, hY1⟩ := ih (len + 1) (upd mk (nI s * 32 + nI (q + len)).toNatClampNeg 2) (upd hg (nI s).toNatClampNeg (qa_mx (hg (nI s).toNatClampNeg) (nI (q + len) + 1))) (by omega) (by omega)
          have Y159 : ∀ (post : Int32 → SY → Prop) (J : Int32 → Int32 → Int32 → qt_B) (x1 x3 : Int32), wY_sendData_205 post J x1 (nI (B - len')) x3 (nI s) (nI q) (nI len') sw cw mp ld kc nx lg nw ls sp ac vi bc dc ak sb mk' wr hg' ky st ss fo fl cb cf co rh ay go bl bh dp an yl yh ya yc → wY_sendData_159 post J (wY_sendData_71 post J x1 x3 (nI s) (nI q) sw cw mp ld kc nx lg nw ls sp ac vi bc dc ak (d + 1)) x1 (nI (B - len)) x3 (nI s) (nI q) (nI len) (nI (q + len)) sw cw mp ld kc nx lg nw ls sp ac vi bc dc ak sb mk wr hg ky st ss fo fl cb cf co rh ay go bl bh dp an yl yh ya yc := by
            intro post J x1 x3 h
            have I := hY1 post J x1 x3 h
            by_cases H : nI (q + len) < hg (nI s).toNatClampNeg
            · rw [qa_id (qp_mx1 (by omega) H)] at I
              exact ⟨hi, nm_e ⟨h4, br_t H (nm_r (nI_1 len) (nm_r b4 I))⟩⟩
            · rw [qp_mx2 (by omega) H] at I
              exact ⟨hi, nm_e ⟨h4, br_f H ⟨h4, nm_e (nm_r (nI_1 len) (nm_r b4 I))⟩⟩⟩
          by_cases H : nI (q + len) < hg (nI s).toNatClampNeg
          · exact ⟨len', mk', hg', hl', hq', fun post h => br_f hX (br_f b1 ⟨hi, br_t M1 ⟨h5, br_t K ⟨h4, br_t H (br_f qa_10 ⟨hi, nm_e ⟨h4, qv_gr ⟨h4, nm_e (nm_r (nI_1 len) (nm_r (nI_1 (q + len)) (hX1 post h)))⟩⟩⟩)⟩⟩⟩), fun post J x1 x3 h => br_f b2 (br_f b3 (nm_r (nI_add q len) ⟨h4, br_f hY ⟨hi, br_t M1 ⟨h4, br_t K' ⟨h4, br_t H (Y159 post J x1 x3 h)⟩⟩⟩⟩))⟩
          · by_cases U : qv_sm hg < kc
            · have U' : ¬ kx 4 ≤ qv_sm hg := by rw [e4]; exact Int32.not_le.mpr U
              exact ⟨len', mk', hg', hl', hq', fun post h => br_f hX (br_f b1 ⟨hi, br_t M1 ⟨h5, br_t K ⟨h4, br_f H (qv_sX3 (br_f U' (br_f qa_10 ⟨hi, nm_e ⟨h4, qv_gr ⟨h4, nm_e (nm_r (nI_1 len) (nm_r (nI_1 (q + len)) (hX1 post h)))⟩⟩⟩)))⟩⟩⟩), fun post J x1 x3 h => br_f b2 (br_f b3 (nm_r (nI_add q len) ⟨h4, br_f hY ⟨hi, br_t M1 ⟨h4, br_t K' ⟨h4, br_f H (qv_sY3 (br_t U (Y159 post J x1 x3 h)))⟩⟩⟩⟩))⟩
            · have U' : kx 4 ≤ qv_sm hg := by rw [e4]; exact Int32.not_lt.mp U
              exact ⟨len, mk, hg, hl, by omega, fun post h => br_f hX (br_f b1 ⟨hi, br_t M1 ⟨h5, br_t K ⟨h4, br_f H (qv_sX3 (br_t U' (br_t rfl h)))⟩⟩⟩), fun post J x1 x3 h => br_f b2 (br_f b3 (nm_r (nI_add q len) ⟨h4, br_f hY ⟨hi, br_t M1 ⟨h4, br_t K' ⟨h4, br_f H (qv_sY3 (br_f U h))⟩⟩⟩⟩))⟩
        · have K' : ¬ nI (q + len) < ky (nI s).toNatClampNeg := by rw [← e]; exact K
          exact ⟨len, mk, hg, hl, by omega, fun post h => br_f hX (br_f b1 ⟨hi, br_t M1 ⟨h5, br_f K (br_t rfl h)⟩⟩), fun post J x1 x3 h => br_f b2 (br_f b3 (nm_r (nI_add q len) ⟨h4, br_f hY ⟨hi, br_t M1 ⟨h4, br_f K' h⟩⟩⟩))⟩
      · exact ⟨len, mk, hg, hl, by omega, fun post h => br_f hX (br_f b1 ⟨hi, br_f M1 (br_t rfl h)⟩), fun post J x1 x3 h => br_f b2 (br_f b3 (nm_r (nI_add q len) ⟨h4, br_f hY ⟨hi, br_f M1 h⟩⟩))⟩
/-- X's remaining streams with no budget left -/
theorem qp_z {post : Int32 → SX → Prop} (hwr : qa_B wr 32) (h : wX_sendData_31 post 1 (nI 0) (nI 4) sw cw mp ld nx lg nw ls sp bc vi dc ak wr hg sb mk kx st ss fo fl cb cf co rh ax go bl bh dp an xl xh xc) : ∀ d s : Nat, s + d = 4 → wX_sendData_31 post (d + 1) (nI 0) (nI s) sw cw mp ld nx lg nw ls sp bc vi dc ak wr hg sb mk kx st ss fo fl cb cf co rh ax go bl bh dp an xl xh xc := by
  intro d
  induction d with
  | zero =>
    intro s hs
    obtain rfl : s = 4 := by omega
    exact h
  | succ d ih =>
    intro s hs
    have h4 : vp_in (nI s) 4 := vp_in_nI (by omega) (by omega)
    obtain ⟨w, hw, ew⟩ := hwr (nI s).toNatClampNeg
    obtain ⟨q, hq, hXf, -⟩ := qp_fp (sw := sw) (cw := cw) (mp := mp) (ld := ld) (nx := nx) (lg := lg) (nw := nw) (ls := ls) (sp := sp) (bc := bc) (vi := vi) (dc := dc) (ak := ak) (wr := wr) (hg := hg) (sb := sb) (mk := mk) (kx := kx) (st := st) (ss := ss) (fo := fo) (fl := fl) (cb := cb) (cf := cf) (co := co) (rh := rh) (ax := ax) (go := go) (bl := bl) (bh := bh) (dp := dp) (an := an) (xl := xl) (xh := xh) (xc := xc) (kc := 0) (ac := 0) (ky := fun _ => 0) (ay := fun _ => 0) (yl := fun _ => 0) (yh := fun _ => 0) (ya := fun _ => 0) (yc := fun _ => 0) (s := s) (by omega) hw ew w 0 (by omega)
    have h84 : wX_packFrame_84 (fun r u => match u with | (sw, cw, mp, ld, nx, lg, nw, ls, sp, bc, vi, dc, ak, wr, hg, sb, mk, kx, st, ss, fo, fl, cb, cf, co, rh, ax, go, bl, bh, dp, an, xl, xh, xc) => ∀ y, y = nI 0 - r → ∀ z, z = nI s + 1 → wX_sendData_31 post (d + 1) y z sw cw mp ld nx lg nw ls sp bc vi dc ak wr hg sb mk kx st ss fo fl cb cf co rh ax go bl bh dp an xl xh xc) (nI s) (nI q) 0 sw cw mp ld nx lg nw ls sp bc vi dc ak wr hg sb mk kx st ss fo fl cb cf co rh ax go bl bh dp an xl xh xc := br_t (by decide) (nm_r (e' := nI 0) (by decide) (nm_r (nI_1 s) (ih (s + 1) (by omega))))
    refine br_f (qm_l4 (by omega)) ⟨w + 1, hXf _ ⟨h4, nm_r ew ⟨1, ?_⟩⟩⟩
    by_cases z : nI w ≤ nI q
    · exact br_t z h84
    · exact br_f z (br_t (Int32.le_refl _) h84)
/-- the four streams -/
theorem qp_out {M N : Nat} (hM8 : M ≤ 8) (hN : N < 64) (hwr : qa_B wr 32) (hkx : qr_C kx ky kc) : ∀ (d s B : Nat) (any : Int32) (mk hg fo fl : Nat → Int32), s + d = 4 → (any = 0 ∧ B = M) ∨ (any = 1 ∧ B < M) → qr_F fo fl → ∃ B' any' mk' hg' fo' fl', ((any' = 0 ∧ B' = M) ∨ (any' = 1 ∧ B' < M)) ∧ qr_F fo' fl' ∧ (∀ post : Int32 → SX → Prop, wX_sendData_31 post 1 (nI B') (nI 4) sw cw mp ld (nI N) lg nw ls sp bc vi dc ak wr hg' sb mk' kx st ss fo' fl' cb cf co rh ax go bl bh dp an xl xh xc → wX_sendData_31 post (d + 1) (nI B) (nI s) sw cw mp ld (nI N) lg nw ls sp bc vi dc ak wr hg sb mk kx st ss fo fl cb cf co rh ax go bl bh dp an xl xh xc) ∧ (∀ post : Int32 → SY → Prop, wY_sendData_244 post (nI N) any' sw cw mp ld kc (nI N) lg nw ls sp ac vi bc dc ak sb mk' wr hg' ky st ss fo' fl' cb cf co rh ay go bl bh dp an yl yh ya yc → wY_sendData_39 post (nI N) sw cw mp ld kc (nI N) lg nw ls sp ac vi bc dc ak (d + 1) (nI B) any (nI s) sb mk wr hg ky st ss fo fl cb cf co rh ay go bl bh dp an yl yh ya yc) := by
  intro d
  induction d with
  | zero =>
    intro s B any mk hg fo fl hs hB hF
    obtain rfl : s = 4 := by omega
    exact ⟨B, any, mk, hg, fo, fl, hB, hF, fun post h => h, fun post h => br_t (qm_g4 (by omega) (by omega)) h⟩
  | succ d ih =>
    intro s B any mk hg fo fl hs hB hF
    have hs4 := qm_l4 (s := s) (by omega)
    have h4 : vp_in (nI s) 4 := vp_in_nI (by omega) (by omega)
    rcases Nat.eq_zero_or_pos B with b0 | b0
    · subst b0
      exact ⟨0, any, mk, hg, fo, fl, hB, hF, fun post h => qp_z hwr h (d + 1) s (by omega), fun post h => br_f hs4 (br_t rfl h)⟩
    · have hbn : ¬ nI B = 0 := fun z => absurd ((qa_eq_0 (by omega)).mp z) (by omega)
      obtain ⟨w, hw, ew⟩ := hwr (nI s).toNatClampNeg
      obtain ⟨q, hq, hXf, hYf⟩ := qp_fp (sw := sw) (cw := cw) (mp := mp) (ld := ld) (nx := nI N) (lg := lg) (nw := nw) (ls := ls) (sp := sp) (bc := bc) (vi := vi) (dc := dc) (ak := ak) (wr := wr) (hg := hg) (sb := sb) (mk := mk) (kx := kx) (st := st) (ss := ss) (fo := fo) (fl := fl) (cb := cb) (cf := cf) (co := co) (rh := rh) (ax := ax) (go := go) (bl := bl) (bh := bh) (dp := dp) (an := an) (xl := xl) (xh := xh) (xc := xc) (kc := kc) (ac := ac) (ky := ky) (ay := ay) (yl := yl) (yh := yh) (ya := ya) (yc := yc) (s := s) (by omega) hw ew w 0 (by omega)
      rcases Nat.eq_or_lt_of_le hq with rfl | hqw
      · obtain ⟨B', any', mk', hg', fo', fl', hB', hF', hX, hY⟩ := ih (s + 1) B any mk hg fo fl (by omega) hB hF
        exact ⟨B', any', mk', hg', fo', fl', hB', hF', fun post h => br_f hs4 ⟨q + 1, hXf _ ⟨h4, nm_r ew ⟨1, br_t (Int32.le_refl _) (br_t (by decide) (nm_r (Int32.sub_zero (nI B)) (nm_r (nI_1 s) (hX post h))))⟩⟩⟩, fun post h => br_f hs4 (br_f hbn ⟨q + 1, hYf _ (fun z => absurd z (by omega)) (fun _ => br_f (by decide) (nm_r (nI_1 s) (hY post h)))⟩)⟩
      · obtain ⟨len, m1, g1, hl, hql, hXi, hYi⟩ := qp_in (sw := sw) (cw := cw) (mp := mp) (ld := ld) (nx := nI N) (lg := lg) (nw := nw) (ls := ls) (sp := sp) (bc := bc) (vi := vi) (dc := dc) (ak := ak) (wr := wr) (sb := sb) (kx := kx) (st := st) (ss := ss) (fo := fo) (fl := fl) (cb := cb) (cf := cf) (co := co) (rh := rh) (ax := ax) (go := go) (bl := bl) (bh := bh) (dp := dp) (an := an) (xl := xl) (xh := xh) (xc := xc) (kc := kc) (ac := ac) (ky := ky) (ay := ay) (yl := yl) (yh := yh) (ya := ya) (yc := yc) (s := s) (q := q) (B := B) (by omega) hw ew (by omega) hkx (w - q) 0 mk hg (by omega) (by omega)
        have hq0 : 0 ≤ nI q := nI_pos' (by omega)
        rcases Nat.eq_zero_or_pos len with l0 | l0
        · subst l0
          obtain ⟨B', any', mk', hg', fo', fl', hB', hF', hX, hY⟩ := ih (s + 1) B any m1 g1 fo fl (by omega) hB hF
          exact ⟨B', any', mk', hg', fo', fl', hB', hF', fun post h => br_f hs4 ⟨w + 1, hXf _ ⟨h4, nm_r ew ⟨w - q + 1, hXi _ (br_t (by decide) (nm_r (Int32.sub_zero (nI B)) (nm_r (nI_1 s) (hX post h))))⟩⟩⟩, fun post h => br_f hs4 (br_f hbn ⟨w + 1, hYf _ (fun _ => br_t hq0 ⟨w - q + 1, hYi _ _ _ _ (br_t (by decide) (nm_r (nI_1 s) (hY post h)))⟩) (fun z => absurd z (by omega))⟩)⟩
        · have hln : ¬ nI len ≤ 0 := fun z => absurd ((qa_le_0 (by omega)).mp z) (by omega)
          have h6 : vp_in (nI N * 4 + nI s) 256 := ql_ix4 (by omega) hN
          obtain ⟨B', any', mk', hg', fo', fl', hB', hF', hX, hY⟩ := ih (s + 1) (B - len) 1 m1 g1 (upd fo (nI N * 4 + nI s).toNatClampNeg (nI q)) (upd fl (nI N * 4 + nI s).toNatClampNeg (nI len)) (by omega) (Or.inr ⟨rfl, by omega⟩) (qr_Fu hF (by omega))
          exact ⟨B', any', mk', hg', fo', fl', hB', hF', fun post h => br_f hs4 ⟨w + 1, hXf _ ⟨h4, nm_r ew ⟨w - q + 1, hXi _ (br_f hln ⟨h6, nm_e ⟨h6, nm_e (nm_r (pk_sub hl) (nm_r (nI_1 s) (hX post h)))⟩⟩)⟩⟩⟩, fun post h => br_f hs4 (br_f hbn ⟨w + 1, hYf _ (fun _ => br_t hq0 ⟨w - q + 1, hYi _ _ _ _ (br_f hln ⟨h6, nm_e ⟨h6, nm_e (nm_r (nI_1 s) (hY post h))⟩⟩)⟩) (fun z => absurd z (by omega))⟩)⟩

theorem i_vc_sendData {k : Nat} {u : SX} {v : SY} (I : i_Rel k u v) (hk : k + 3 ≤ 1540) : wpX_sendData (fun r u' => wpY_sendData (fun r' v' => r' = r ∧ i_Rel (k + 3) u' v') v) u := by
  obtain ⟨M, N, C, D, A, sw, cw, ld, lg, nw, ls, sp, vi, kc, ac, wr, hg, sb, mk, kx, st, ss, fo, fl, cb, cf, co, rh, ax, go, bl, bh, dp, an, xl, xh, xc, ky, ay, yl, yh, ya, yc, rfl, rfl, hI⟩ := I
  obtain ⟨⟨hM1, hM8, hN, hC, hD, hA⟩, hlg, hwr, hco, hrh, hcf, hgo, hF, hdp, hbl, hbh, han, hxl, hxh, hkx, hax, hK, hR⟩ := id hI
  by_cases hN64 : N = 64
  · subst hN64
    exact br_t rfl (br_t rfl ⟨rfl, qr_mk hI⟩)
  · have hn : ¬ nI N = 64 := fun z => hN64 ((qa_eq_64 (by omega)).mp z)
    by_cases hD8 : D = 8
    · subst hD8
      exact br_f hn (br_t rfl (br_f hn (br_t rfl ⟨rfl, qr_mk hI⟩)))
    · have hd : ¬ nI D = 8 := fun z => hD8 ((qa_eq_8 (by omega)).mp z)
      obtain ⟨B', any', mk', hg', fo', fl', hB', hF', hX, hY⟩ := qp_out (sw := sw) (cw := cw) (mp := nI M) (ld := ld) (lg := lg) (nw := nw) (ls := ls) (sp := sp) (bc := nI C) (vi := vi) (dc := nI D) (ak := nI A) (wr := wr) (sb := sb) (kx := kx) (st := st) (ss := ss) (cb := cb) (cf := cf) (co := co) (rh := rh) (ax := ax) (go := go) (bl := bl) (bh := bh) (dp := dp) (an := an) (xl := xl) (xh := xh) (xc := xc) (kc := kc) (ac := ac) (ky := ky) (ay := ay) (yl := yl) (yh := yh) (ya := ya) (yc := yc) hM8 (N := N) (by omega) hwr hkx 4 0 M 0 mk hg fo fl rfl (Or.inl ⟨rfl, rfl⟩) hF
      rcases hB' with ⟨rfl, rfl⟩ | ⟨rfl, hlt⟩
      · exact br_f hn (br_f hd ⟨5, hX _ (br_t (Int32.le_refl _) (br_t rfl (br_f hn (br_f hd ⟨5, hY _ (br_t rfl ⟨rfl, qr_mk ⟨⟨hM1, hM8, hN, hC, hD, hA⟩, hlg, hwr, hco, hrh, hcf, hgo, hF', hdp, hbl, hbh, han, hxl, hxh, hkx, hax, hK, hR⟩⟩)⟩))))⟩)
      · have hb : ¬ nI B' = nI M := fun z => absurd ((nI_eq (by omega) (by omega)).mp z) (by omega)
        have h64 : vp_in (nI N) 64 := vp_in_nI (by omega) (by omega)
        have h8 : vp_in (nI D) 8 := vp_in_nI (by omega) (by omega)
        exact br_f hn (br_f hd ⟨5, hX _ (br_t (Int32.le_refl _) (br_f hb (nm_r (nI_1 N) ⟨h64, nm_e ⟨h64, nm_e ⟨h8, nm_e (nm_r (nI_1 D) (br_f hn (br_f hd ⟨5, hY _ (br_f qa_10 (nm_r (nI_1 N) ⟨h64, nm_e ⟨h64, nm_e ⟨h8, nm_e (nm_r (nI_1 D) ⟨rfl, qr_mk ⟨⟨hM1, hM8, by omega, hC, by omega, hA⟩, hlg, hwr, hco, hrh, hcf, hgo, hF', qa_Bu hdp (by omega), hbl, hbh, han, hxl, hxh, hkx, hax, hK, hR⟩⟩)⟩⟩⟩))⟩)))⟩⟩⟩)))⟩)
end QP
end
section
section QI
variable {sw cw mp ld nx lg nw ls sp bc vi dc ak kc ac : Int32} {wr hg sb mk kx st ss fo fl cb cf co rh ax go bl bh dp an xl xh xc ky ay yl yh ya yc : Nat → Int32}
theorem qi_c (v lo hi : Int32) (h : lo ≤ hi) : ∃ r, lo ≤ r ∧ r ≤ hi ∧ (∀ post : Int32 → Prop, post r → wpX_clamp post v lo hi) ∧ (∀ (post : Int32 → Prop) (u : SY), post r → wpY_clamp post u v lo hi) := by
  by_cases z : lo ≤ v
  · by_cases w : v ≤ hi
    · exact ⟨v, z, w, fun post hp => br_t z (br_t w hp), fun post ⟨y0, y1, y2, y3, y4, y5, y6, y7, y8, y9, y10, y11, y12, y13, y14, y15, y16, y17, y18, y19, y20, y21, y22, y23, y24, y25, y26, y27, y28, y29, y30, y31, y32, y33, y34, y35, y36, y37⟩ hp => br_t z (br_t w hp)⟩
    · exact ⟨hi, h, Int32.le_refl _, fun post hp => br_t z (br_f w hp), fun post ⟨y0, y1, y2, y3, y4, y5, y6, y7, y8, y9, y10, y11, y12, y13, y14, y15, y16, y17, y18, y19, y20, y21, y22, y23, y24, y25, y26, y27, y28, y29, y30, y31, y32, y33, y34, y35, y36, y37⟩ hp => br_t z (br_f w hp)⟩
  · exact ⟨lo, Int32.le_refl _, h, fun post hp => br_f z hp, fun post ⟨y0, y1, y2, y3, y4, y5, y6, y7, y8, y9, y10, y11, y12, y13, y14, y15, y16, y17, y18, y19, y20, y21, y22, y23, y24, y25, y26, y27, y28, y29, y30, y31, y32, y33, y34, y35, y36, y37⟩ hp => br_f z hp⟩
def qi_f (c : Int32) (k : Nat) : Nat → Int32 := fun j => if j < k then c else 0
theorem qi_f0 {c : Int32} : qi_f c 0 = fun _ => 0 := by
  funext j
  exact if_neg (by omega)
theorem qi_fs {c : Int32} {k : Nat} (hk : k < 2 ^ 31) : upd (qi_f c k) (nI k).toNatClampNeg c = qi_f c (k + 1) := by
  rw [nI_clamp hk]
  funext j
  by_cases e : j = k
  · subst e
    exact (if_pos rfl).trans (if_pos (by omega)).symm
  · by_cases l : j < k
    · exact (if_neg e).trans ((if_pos l).trans (if_pos (by omega)).symm)
    · exact (if_neg e).trans ((if_neg l).trans (if_neg (by omega)).symm)
theorem qi_C {sw cw : Int32} : qr_C (upd (qi_f sw 4) 4 cw) (qi_f sw 4) cw := ⟨fun k hk => pk_un (by omega), pk_us⟩
theorem qi_x {post : SX → Prop} (h : post (sw, cw, mp, ld, nx, lg, nw, ls, sp, bc, vi, dc, ak, wr, hg, sb, mk, upd (qi_f sw 4) 4 cw, st, ss, fo, fl, cb, cf, co, rh, upd (qi_f sw 4) 4 cw, go, bl, bh, dp, an, xl, xh, xc)) : ∀ d k : Nat, k + d = 4 → wX_init_273 post sw cw mp ld nx lg nw ls sp bc vi dc ak (d + 1) (nI k) wr hg sb mk (qi_f sw k) st ss fo fl cb cf co rh (qi_f sw k) go bl bh dp an xl xh xc := by
  intro d
  induction d with
  | zero =>
    intro k hk
    obtain rfl : k = 4 := by omega
    exact br_t (qm_g4 (by omega) (by omega)) (nm_e (nm_e h))
  | succ d ih =>
    intro k hk
    have h5 : vp_in (nI k) 5 := vp_in_nI (by omega) (by omega)
    exact br_f (qm_l4 (by omega)) ⟨h5, nm_r (qi_fs (by omega)) ⟨h5, nm_r (qi_fs (by omega)) (nm_r (nI_1 k) (ih (k + 1) (by omega)))⟩⟩
theorem qi_y {post : SY → Prop} (h : post (sw, cw, mp, ld, cw, nx, -1, nw, ls, sp, cw, vi, bc, dc, ak, sb, mk, wr, hg, qi_f sw 4, st, ss, fo, fl, cb, cf, co, rh, qi_f sw 4, go, bl, bh, dp, an, yl, yh, ya, yc)) : ∀ d k : Nat, k + d = 4 → wY_init_240 post sw cw mp ld kc nx lg nw ls sp ac vi bc dc ak (d + 1) (nI k) sb mk wr hg (qi_f sw k) st ss fo fl cb cf co rh (qi_f sw k) go bl bh dp an yl yh ya yc := by
  intro d
  induction d with
  | zero =>
    intro k hk
    obtain rfl : k = 4 := by omega
    exact br_t (qm_g4 (by omega) (by omega)) h
  | succ d ih =>
    intro k hk
    have h4 : vp_in (nI k) 4 := vp_in_nI (by omega) (by omega)
    exact br_f (qm_l4 (by omega)) ⟨h4, nm_r (qi_fs (by omega)) ⟨h4, nm_r (qi_fs (by omega)) (nm_r (nI_1 k) (ih (k + 1) (by omega)))⟩⟩

theorem i_vc0 (k0 : Int32) (k1 : Int32) (k2 : Int32) (k3 : Int32) : wpX_init (fun u => wpY_init (fun v => i_Rel 4 u v) k0 k1 k2 k3) k0 k1 k2 k3 := by
  obtain ⟨r1, -, -, hX1, hY1⟩ := qi_c k0 1 32 (by decide)
  obtain ⟨r2, -, -, hX2, hY2⟩ := qi_c k1 1 128 (by decide)
  obtain ⟨r3, a3, b3, hX3, hY3⟩ := qi_c k2 1 8 (by decide)
  obtain ⟨r4, -, -, hX4, hY4⟩ := qi_c k3 1 1000 (by decide)
  obtain ⟨M, hM8, rfl⟩ := nI_of2 (x := r3) (M := 8) (n := 8) (by decide) (Int32.not_lt.mpr (Int32.le_trans (by decide) a3)) b3
  have hM1 : 1 ≤ M := (qa_ge_1 (by omega)).mp a3
  unfold wpX_init
  refine hX1 _ (hX2 _ (hX3 _ (hX4 _ ⟨5, ?_⟩)))
  have hx := qi_x (sw := r1) (cw := r2) (mp := nI M) (ld := r4) (nx := 0) (lg := -1) (nw := 0) (ls := 0) (sp := 0) (bc := 0) (vi := 0) (dc := 0) (ak := 0) (wr := fun _ => 0) (hg := fun _ => 0) (sb := fun _ => 0) (mk := fun _ => 0) (st := fun _ => 0) (ss := fun _ => 0) (fo := fun _ => 0) (fl := fun _ => 0) (cb := fun _ => 0) (cf := fun _ => 0) (co := fun _ => 0) (rh := fun _ => 0) (go := fun _ => 0) (bl := fun _ => 0) (bh := fun _ => 0) (dp := fun _ => 0) (an := fun _ => 0) (xl := fun _ => 0) (xh := fun _ => 0) (xc := fun _ => 0) (post := fun u => wpY_init (fun v => i_Rel 4 u v) k0 k1 k2 k3) ?_ 4 0 rfl
  · rw [qi_f0] at hx
    exact hx
  · show wpY_init _ k0 k1 k2 k3
    unfold wpY_init
    refine hY1 _ _ (hY2 _ _ (hY3 _ _ (hY4 _ _ ⟨5, ?_⟩)))
    have hy := qi_y (sw := r1) (cw := r2) (mp := nI M) (ld := r4) (kc := 0) (nx := 0) (lg := 0) (nw := 0) (ls := 0) (sp := 0) (ac := 0) (vi := 0) (bc := 0) (dc := 0) (ak := 0) (sb := fun _ => 0) (mk := fun _ => 0) (wr := fun _ => 0) (hg := fun _ => 0) (st := fun _ => 0) (ss := fun _ => 0) (fo := fun _ => 0) (fl := fun _ => 0) (cb := fun _ => 0) (cf := fun _ => 0) (co := fun _ => 0) (rh := fun _ => 0) (go := fun _ => 0) (bl := fun _ => 0) (bh := fun _ => 0) (dp := fun _ => 0) (an := fun _ => 0) (yl := fun _ => 0) (yh := fun _ => 0) (ya := fun _ => 0) (yc := fun _ => 0) (post := fun v => i_Rel 4 (r1, r2, nI M, r4, 0, -1, 0, 0, 0, 0, 0, 0, 0, (fun _ => 0), (fun _ => 0), (fun _ => 0), (fun _ => 0), upd (qi_f r1 4) 4 r2, (fun _ => 0), (fun _ => 0), (fun _ => 0), (fun _ => 0), (fun _ => 0), (fun _ => 0), (fun _ => 0), (fun _ => 0), upd (qi_f r1 4) 4 r2, (fun _ => 0), (fun _ => 0), (fun _ => 0), (fun _ => 0), (fun _ => 0), (fun _ => 0), (fun _ => 0), (fun _ => 0)) v) ?_ 4 0 rfl
    · rw [qi_f0] at hy
      exact hy
    · exact qr_mk (M := M) (N := 0) (C := 0) (D := 0) (A := 0) ⟨⟨hM1, hM8, by omega, by omega, by omega, by omega⟩, Or.inl rfl, qa_B0, qa_B0, qa_B0, qa_B0, qa_B0, qr_F0, qa_B0, qa_B0, qa_B0, qa_B0, qa_B0, qa_B0, qi_C, qi_C, qr_K0, qr_R0⟩

end QI
end
