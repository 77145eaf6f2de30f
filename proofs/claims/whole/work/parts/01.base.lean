section QA
theorem pk_us {f : Nat → Int32} {k : Nat} {x : Int32} : upd f k x k = x := if_pos rfl
theorem pk_un {f : Nat → Int32} {k j : Nat} {x : Int32} (h : j ≠ k) : upd f k x j = f j := if_neg h
theorem pk_sub {a b : Nat} (h : b ≤ a) : nI a - nI b = nI (a - b) := by
  obtain ⟨c, rfl⟩ : ∃ c, a = c + b := ⟨a - b, by omega⟩
  rw [← nI_add, Int32.add_sub_cancel, Nat.add_sub_cancel]
theorem pk_m1 (n : Nat) : nI (n + 1) + (-1) = nI n := by
  rw [← nI_1, Int32.add_assoc, show (1 : Int32) + (-1) = 0 from rfl, Int32.add_zero]
theorem pk_mul (a b : Nat) : nI a * nI b = nI (a * b) := (Int32.ofNat_mul a b).symm
theorem pk_sub_toInt {a b : Nat} (ha : a < 2 ^ 30) (hb : b < 2 ^ 30) : (nI a - nI b).toInt = (a : Int) - b := by
  rw [Int32.toInt_sub, nI_toInt (by omega), nI_toInt (by omega)]
  exact Int.bmod_eq_of_le (by omega) (by omega)
theorem pk_ix (x : Int32) {n : Nat} (hn : n < 2 ^ 31) : x < 0 ∨ nI n ≤ x ∨ ∃ j : Nat, j < n ∧ x = nI j := by
  by_cases h : x < 0
  · exact Or.inl h
  · obtain ⟨j, hj, rfl⟩ := nI_of h
    by_cases h2 : j < n
    · exact Or.inr (Or.inr ⟨j, h2, rfl⟩)
    · exact Or.inr (Or.inl (nI_le (by omega) hj))
theorem pk_le {x y : Int32} {A B : Prop} (a b : Nat) (f : a ≤ b → A) (g : b < a → B) (hx : x = nI a := by rfl) (hy : y = nI b := by rfl) (ha : a < 2 ^ 31 := by omega) (hb : b < 2 ^ 31 := by omega) : (x ≤ y → A) ∧ (¬ x ≤ y → B) := by
  subst hx hy
  rw [nI_leI ha hb]
  exact ⟨f, fun z => g (by omega)⟩
theorem pk_lt {x y : Int32} {A B : Prop} (a b : Nat) (f : a < b → A) (g : b ≤ a → B) (hx : x = nI a := by rfl) (hy : y = nI b := by rfl) (ha : a < 2 ^ 31 := by omega) (hb : b < 2 ^ 31 := by omega) : (x < y → A) ∧ (¬ x < y → B) := by
  subst hx hy
  rw [nI_ltI ha hb]
  exact ⟨f, fun z => g (by omega)⟩
theorem pk_eq {x y : Int32} {A B : Prop} (a b : Nat) (f : a = b → A) (g : a ≠ b → B) (hx : x = nI a := by rfl) (hy : y = nI b := by rfl) (ha : a < 2 ^ 31 := by omega) (hb : b < 2 ^ 31 := by omega) : (x = y → A) ∧ (¬ x = y → B) := by
  subst hx hy
  rw [nI_eq ha hb]
  exact ⟨f, g⟩
theorem pk_in {x : Int32} (n N : Nat) (h : n < N) (hx : x = nI n := by rfl) (hN : N < 2 ^ 31 := by omega) : vp_in x N := by
  subst hx
  exact vp_in_nI h hN
theorem pk_cl {x : Int32} (n : Nat) (hx : x = nI n := by rfl) (h : n < 2 ^ 31 := by omega) : x.toNatClampNeg = n := by
  subst hx
  exact nI_clamp h
/-! numbers against literals -/
theorem qa_lt_1 {a : Nat} (h : a < 2 ^ 31) : nI a < 1 ↔ a < 1 := nI_ltI (b := 1) h (by omega)
theorem qa_gt_1 {a : Nat} (h : a < 2 ^ 31) : 1 < nI a ↔ 1 < a := nI_ltI (a := 1) (by omega) h
theorem qa_le_1 {a : Nat} (h : a < 2 ^ 31) : nI a ≤ 1 ↔ a ≤ 1 := nI_leI (b := 1) h (by omega)
theorem qa_ge_1 {a : Nat} (h : a < 2 ^ 31) : 1 ≤ nI a ↔ 1 ≤ a := nI_leI (a := 1) (by omega) h
theorem qa_eq_1 {a : Nat} (h : a < 2 ^ 31) : nI a = 1 ↔ a = 1 := nI_eq (b := 1) h (by omega)
theorem qa_lt_2 {a : Nat} (h : a < 2 ^ 31) : nI a < 2 ↔ a < 2 := nI_ltI (b := 2) h (by omega)
theorem qa_gt_2 {a : Nat} (h : a < 2 ^ 31) : 2 < nI a ↔ 2 < a := nI_ltI (a := 2) (by omega) h
theorem qa_le_2 {a : Nat} (h : a < 2 ^ 31) : nI a ≤ 2 ↔ a ≤ 2 := nI_leI (b := 2) h (by omega)
theorem qa_ge_2 {a : Nat} (h : a < 2 ^ 31) : 2 ≤ nI a ↔ 2 ≤ a := nI_leI (a := 2) (by omega) h
theorem qa_eq_2 {a : Nat} (h : a < 2 ^ 31) : nI a = 2 ↔ a = 2 := nI_eq (b := 2) h (by omega)
theorem qa_lt_3 {a : Nat} (h : a < 2 ^ 31) : nI a < 3 ↔ a < 3 := nI_ltI (b := 3) h (by omega)
theorem qa_gt_3 {a : Nat} (h : a < 2 ^ 31) : 3 < nI a ↔ 3 < a := nI_ltI (a := 3) (by omega) h
theorem qa_le_3 {a : Nat} (h : a < 2 ^ 31) : nI a ≤ 3 ↔ a ≤ 3 := nI_leI (b := 3) h (by omega)
theorem qa_ge_3 {a : Nat} (h : a < 2 ^ 31) : 3 ≤ nI a ↔ 3 ≤ a := nI_leI (a := 3) (by omega) h
theorem qa_eq_3 {a : Nat} (h : a < 2 ^ 31) : nI a = 3 ↔ a = 3 := nI_eq (b := 3) h (by omega)
theorem qa_lt_4 {a : Nat} (h : a < 2 ^ 31) : nI a < 4 ↔ a < 4 := nI_ltI (b := 4) h (by omega)
theorem qa_gt_4 {a : Nat} (h : a < 2 ^ 31) : 4 < nI a ↔ 4 < a := nI_ltI (a := 4) (by omega) h
theorem qa_le_4 {a : Nat} (h : a < 2 ^ 31) : nI a ≤ 4 ↔ a ≤ 4 := nI_leI (b := 4) h (by omega)
theorem qa_ge_4 {a : Nat} (h : a < 2 ^ 31) : 4 ≤ nI a ↔ 4 ≤ a := nI_leI (a := 4) (by omega) h
theorem qa_eq_4 {a : Nat} (h : a < 2 ^ 31) : nI a = 4 ↔ a = 4 := nI_eq (b := 4) h (by omega)
theorem qa_lt_5 {a : Nat} (h : a < 2 ^ 31) : nI a < 5 ↔ a < 5 := nI_ltI (b := 5) h (by omega)
theorem qa_gt_5 {a : Nat} (h : a < 2 ^ 31) : 5 < nI a ↔ 5 < a := nI_ltI (a := 5) (by omega) h
theorem qa_le_5 {a : Nat} (h : a < 2 ^ 31) : nI a ≤ 5 ↔ a ≤ 5 := nI_leI (b := 5) h (by omega)
theorem qa_ge_5 {a : Nat} (h : a < 2 ^ 31) : 5 ≤ nI a ↔ 5 ≤ a := nI_leI (a := 5) (by omega) h
theorem qa_eq_5 {a : Nat} (h : a < 2 ^ 31) : nI a = 5 ↔ a = 5 := nI_eq (b := 5) h (by omega)
theorem qa_lt_7 {a : Nat} (h : a < 2 ^ 31) : nI a < 7 ↔ a < 7 := nI_ltI (b := 7) h (by omega)
theorem qa_gt_7 {a : Nat} (h : a < 2 ^ 31) : 7 < nI a ↔ 7 < a := nI_ltI (a := 7) (by omega) h
theorem qa_le_7 {a : Nat} (h : a < 2 ^ 31) : nI a ≤ 7 ↔ a ≤ 7 := nI_leI (b := 7) h (by omega)
theorem qa_ge_7 {a : Nat} (h : a < 2 ^ 31) : 7 ≤ nI a ↔ 7 ≤ a := nI_leI (a := 7) (by omega) h
theorem qa_eq_7 {a : Nat} (h : a < 2 ^ 31) : nI a = 7 ↔ a = 7 := nI_eq (b := 7) h (by omega)
theorem qa_lt_8 {a : Nat} (h : a < 2 ^ 31) : nI a < 8 ↔ a < 8 := nI_ltI (b := 8) h (by omega)
theorem qa_gt_8 {a : Nat} (h : a < 2 ^ 31) : 8 < nI a ↔ 8 < a := nI_ltI (a := 8) (by omega) h
theorem qa_le_8 {a : Nat} (h : a < 2 ^ 31) : nI a ≤ 8 ↔ a ≤ 8 := nI_leI (b := 8) h (by omega)
theorem qa_ge_8 {a : Nat} (h : a < 2 ^ 31) : 8 ≤ nI a ↔ 8 ≤ a := nI_leI (a := 8) (by omega) h
theorem qa_eq_8 {a : Nat} (h : a < 2 ^ 31) : nI a = 8 ↔ a = 8 := nI_eq (b := 8) h (by omega)
theorem qa_lt_32 {a : Nat} (h : a < 2 ^ 31) : nI a < 32 ↔ a < 32 := nI_ltI (b := 32) h (by omega)
theorem qa_gt_32 {a : Nat} (h : a < 2 ^ 31) : 32 < nI a ↔ 32 < a := nI_ltI (a := 32) (by omega) h
theorem qa_le_32 {a : Nat} (h : a < 2 ^ 31) : nI a ≤ 32 ↔ a ≤ 32 := nI_leI (b := 32) h (by omega)
theorem qa_ge_32 {a : Nat} (h : a < 2 ^ 31) : 32 ≤ nI a ↔ 32 ≤ a := nI_leI (a := 32) (by omega) h
theorem qa_eq_32 {a : Nat} (h : a < 2 ^ 31) : nI a = 32 ↔ a = 32 := nI_eq (b := 32) h (by omega)
theorem qa_lt_63 {a : Nat} (h : a < 2 ^ 31) : nI a < 63 ↔ a < 63 := nI_ltI (b := 63) h (by omega)
theorem qa_gt_63 {a : Nat} (h : a < 2 ^ 31) : 63 < nI a ↔ 63 < a := nI_ltI (a := 63) (by omega) h
theorem qa_le_63 {a : Nat} (h : a < 2 ^ 31) : nI a ≤ 63 ↔ a ≤ 63 := nI_leI (b := 63) h (by omega)
theorem qa_ge_63 {a : Nat} (h : a < 2 ^ 31) : 63 ≤ nI a ↔ 63 ≤ a := nI_leI (a := 63) (by omega) h
theorem qa_eq_63 {a : Nat} (h : a < 2 ^ 31) : nI a = 63 ↔ a = 63 := nI_eq (b := 63) h (by omega)
theorem qa_lt_64 {a : Nat} (h : a < 2 ^ 31) : nI a < 64 ↔ a < 64 := nI_ltI (b := 64) h (by omega)
theorem qa_gt_64 {a : Nat} (h : a < 2 ^ 31) : 64 < nI a ↔ 64 < a := nI_ltI (a := 64) (by omega) h
theorem qa_le_64 {a : Nat} (h : a < 2 ^ 31) : nI a ≤ 64 ↔ a ≤ 64 := nI_leI (b := 64) h (by omega)
theorem qa_ge_64 {a : Nat} (h : a < 2 ^ 31) : 64 ≤ nI a ↔ 64 ≤ a := nI_leI (a := 64) (by omega) h
theorem qa_eq_64 {a : Nat} (h : a < 2 ^ 31) : nI a = 64 ↔ a = 64 := nI_eq (b := 64) h (by omega)
theorem qa_lt_0 {a : Nat} (h : a < 2 ^ 31) : nI a < 0 ↔ False := ⟨fun z => nI_pos h z, False.elim⟩
theorem qa_ge_0 {a : Nat} (h : a < 2 ^ 31) : 0 ≤ nI a ↔ True := ⟨fun _ => trivial, fun _ => nI_pos' h⟩
theorem qa_gt_0 {a : Nat} (h : a < 2 ^ 31) : 0 < nI a ↔ 0 < a := nI_ltI (a := 0) (by omega) h
theorem qa_le_0 {a : Nat} (h : a < 2 ^ 31) : nI a ≤ 0 ↔ a = 0 := by
  have := nI_leI (a := a) (b := 0) h (by omega)
  rw [nI_0] at this
  rw [this]; omega
theorem qa_eq_0 {a : Nat} (h : a < 2 ^ 31) : nI a = 0 ↔ a = 0 := nI_eq (b := 0) h (by omega)
theorem qa_m_4 (a : Nat) : nI a * 4 = nI (a * 4) := pk_mul a 4
theorem qa_m_5 (a : Nat) : nI a * 5 = nI (a * 5) := pk_mul a 5
theorem qa_m_16 (a : Nat) : nI a * 16 = nI (a * 16) := pk_mul a 16
theorem qa_m_32 (a : Nat) : nI a * 32 = nI (a * 32) := pk_mul a 32
theorem qa_p_4 (a : Nat) : nI a + 4 = nI (a + 4) := nI_add a 4
theorem qa_p_5 (a : Nat) : nI a + 5 = nI (a + 5) := nI_add a 5
theorem qa_s1 {n : Nat} (h : 0 < n) : nI n - 1 = nI (n - 1) := pk_sub (b := 1) h
theorem qa_m1 {n : Nat} (h : 0 < n) : nI n + (-1) = nI (n - 1) := by
  obtain ⟨m, rfl⟩ : ∃ m, n = m + 1 := ⟨n - 1, by omega⟩
  exact pk_m1 m
/-! bounded arrays, stores, shifts -/
def qa_B (a : Nat → Int32) (n : Nat) : Prop := ∀ i, ∃ w, w ≤ n ∧ a i = nI w
theorem qa_B0 {n : Nat} : qa_B (fun _ => 0) n := fun _ => ⟨0, Nat.zero_le _, rfl⟩
theorem qa_Bu {a : Nat → Int32} {n k w : Nat} (h : qa_B a n) (hw : w ≤ n) : qa_B (upd a k (nI w)) n := by
  intro i
  by_cases e : i = k
  · exact ⟨w, hw, if_pos e⟩
  · obtain ⟨v, hv, e2⟩ := h i
    exact ⟨v, hv, (if_neg e).trans e2⟩
theorem qa_Bx {a : Nat → Int32} {n k : Nat} {x : Int32} (h : qa_B a n) (hx : ∃ w, w ≤ n ∧ x = nI w) : qa_B (upd a k x) n := by
  obtain ⟨w, hw, rfl⟩ := hx
  exact qa_Bu h hw
theorem qa_id {a : Nat → Int32} {k : Nat} {x : Int32} (h : x = a k) : upd a k x = a := by
  funext j
  by_cases e : j = k
  · rw [e]; exact (if_pos rfl).trans h
  · exact if_neg e
def qa_sh (a : Nat → Int32) (lo hi d : Nat) : Nat → Int32 := fun j => if lo ≤ j ∧ j < hi then a (j + d) else a j
theorem qa_sh0 {a : Nat → Int32} {lo hi d : Nat} (h : hi ≤ lo) : qa_sh a lo hi d = a := by
  funext j
  exact if_neg (by omega)
theorem qa_shv {a : Nat → Int32} {lo hi d j : Nat} (h : hi ≤ j) : qa_sh a lo hi d j = a j := if_neg (by omega)
theorem qa_shi {a : Nat → Int32} {lo hi d j : Nat} (h : lo ≤ j) (h2 : j < hi) : qa_sh a lo hi d j = a (j + d) := if_pos ⟨h, h2⟩
theorem qa_shl {a : Nat → Int32} {lo hi d j : Nat} (h : j < lo) : qa_sh a lo hi d j = a j := if_neg (by omega)
theorem qa_shs {a : Nat → Int32} {lo i d : Nat} (h : lo ≤ i) : upd (qa_sh a lo i d) i (a (i + d)) = qa_sh a lo (i + 1) d := by
  funext j
  by_cases e : j = i
  · subst e
    rw [qa_shi h (by omega)]; exact if_pos rfl
  · by_cases l : lo ≤ j ∧ j < i
    · rw [qa_shi l.1 (by omega)]
      exact (if_neg e).trans (if_pos l)
    · refine (if_neg e).trans ((if_neg l).trans (Eq.symm (if_neg ?_)))
      omega
theorem qa_Bsh {a : Nat → Int32} {lo hi d n : Nat} (h : qa_B a n) : qa_B (qa_sh a lo hi d) n := by
  intro i
  by_cases l : lo ≤ i ∧ i < hi
  · obtain ⟨w, hw, e⟩ := h (i + d)
    exact ⟨w, hw, (if_pos l).trans e⟩
  · obtain ⟨w, hw, e⟩ := h i
    exact ⟨w, hw, (if_neg l).trans e⟩
/-! the greater of two -/
def qa_mx (a b : Int32) : Int32 := if a < b then b else a
theorem qa_mx1 {a b : Int32} (h : a < b) : qa_mx a b = b := if_pos h
theorem qa_mx2 {a b : Int32} (h : ¬ a < b) : qa_mx a b = a := if_neg h
theorem qa_mx3 {a b : Int32} (h : a ≤ b) : qa_mx a b = b := by
  by_cases z : a < b
  · exact if_pos z
  · exact (if_neg z).trans (Int32.le_antisymm h (Int32.not_lt.mp z))
theorem qa_mx4 {a b : Int32} (h : ¬ a ≤ b) : qa_mx a b = a := if_neg (fun z => h (Int32.le_of_lt z))
def qa_mn (a b : Int32) : Int32 := if a < b then a else b
theorem qa_mn1 {a b : Int32} (h : a < b) : qa_mn a b = a := if_pos h
theorem qa_mn2 {a b : Int32} (h : ¬ a < b) : qa_mn a b = b := if_neg h
theorem qa_mn3 {a b : Int32} (h : b ≤ a) : qa_mn a b = b := if_neg (fun z => Int32.not_lt.mpr h z)
theorem qa_mn4 {a b : Int32} (h : ¬ b ≤ a) : qa_mn a b = a := if_pos (Int32.not_le.mp h)
def qa_sm (a : Nat → Int32) : Int32 := 0 + a 0 + a 1 + a 2 + a 3
theorem qa_vb0 : vp_nar .boolean 0 = 0 := by decide
theorem qa_vb1 : vp_nar .boolean 1 = 1 := by decide
theorem qa_nb {x : Int32} (h : x = 0 ∨ x = 1) : narrow .boolean (.int x) = .int x := by
  rcases h with rfl | rfl <;> rfl
theorem qa_B1 {a : Nat → Int32} (h : qa_B a 1) (i : Nat) : a i = 0 ∨ a i = 1 := by
  obtain ⟨w, hw, e⟩ := h i
  rcases Nat.lt_or_ge w 1 with z | z
  · obtain rfl : w = 0 := by omega
    exact Or.inl e
  · obtain rfl : w = 1 := by omega
    exact Or.inr e
/-! credits raised up to n; cells copied -/
def qa_up (f g : Nat → Int32) (n : Nat) : Nat → Int32 := fun j => if j < n then qa_mx (f j) (g j) else f j
theorem qa_up0 {f g : Nat → Int32} : qa_up f g 0 = f := by
  funext j
  exact if_neg (by omega)
theorem qa_upn {f g : Nat → Int32} {n j : Nat} (h : n ≤ j) : qa_up f g n j = f j := if_neg (by omega)
theorem qa_upv {f g : Nat → Int32} {n j : Nat} (h : j < n) : qa_up f g n j = qa_mx (f j) (g j) := if_pos h
theorem qa_ups {f g : Nat → Int32} {n : Nat} : upd (qa_up f g n) n (qa_mx (f n) (g n)) = qa_up f g (n + 1) := by
  funext j
  by_cases e : j = n
  · subst e
    rw [qa_upv (by omega)]; exact if_pos rfl
  · by_cases l : j < n
    · rw [qa_upv (n := n + 1) (by omega)]
      exact (if_neg e).trans (if_pos l)
    · rw [qa_upn (n := n + 1) (by omega)]
      exact (if_neg e).trans (if_neg l)
theorem qa_upk {f g : Nat → Int32} {n : Nat} (h : qa_mx (f n) (g n) = f n) : qa_up f g (n + 1) = qa_up f g n := by
  rw [← qa_ups, h]
  exact qa_id (qa_upn (Nat.le_refl n)).symm
def qa_cp (d s : Nat → Int32) (at0 n : Nat) : Nat → Int32 := fun j => if at0 ≤ j ∧ j < at0 + n then s (j - at0) else d j
theorem qa_cp0 {d s : Nat → Int32} {p : Nat} : qa_cp d s p 0 = d := by
  funext j
  exact if_neg (by omega)
theorem qa_cpi {d s : Nat → Int32} {p n j : Nat} (h : j < n) : qa_cp d s p n (p + j) = s j := by
  refine (if_pos (by omega)).trans ?_
  rw [Nat.add_sub_cancel_left]
theorem qa_cpo {d s : Nat → Int32} {p n j : Nat} (h : j < p) : qa_cp d s p n j = d j := if_neg (by omega)
theorem qa_cps {d s : Nat → Int32} {p n : Nat} : upd (qa_cp d s p n) (p + n) (s n) = qa_cp d s p (n + 1) := by
  funext j
  by_cases e : j = p + n
  · subst e
    rw [qa_cpi (by omega)]; exact if_pos rfl
  · by_cases l : p ≤ j ∧ j < p + n
    · exact (if_neg e).trans ((if_pos l).trans (Eq.symm (if_pos (by omega))))
    · exact (if_neg e).trans ((if_neg l).trans (Eq.symm (if_neg (by omega))))
theorem qa_Bcp {d s : Nat → Int32} {p n b : Nat} (hd : qa_B d b) (hs : qa_B s b) : qa_B (qa_cp d s p n) b := by
  intro i
  by_cases l : p ≤ i ∧ i < p + n
  · obtain ⟨w, hw, e⟩ := hs (i - p)
    exact ⟨w, hw, (if_pos l).trans e⟩
  · obtain ⟨w, hw, e⟩ := hd i
    exact ⟨w, hw, (if_neg l).trans e⟩
theorem qa_10 : ¬ (1 : Int32) = 0 := by decide
theorem qa_ix (x : Int32) {n : Nat} (hn : n < 2 ^ 31) : (x < 0 ∧ (∀ m, m < 2 ^ 31 → ¬ x = nI m)) ∨ (¬ x < 0 ∧ nI n ≤ x ∧ ¬ x < nI n ∧ ∀ m, m < n → nI m < x ∧ ¬ x ≤ nI m ∧ ¬ x = nI m) ∨ ∃ j : Nat, j < n ∧ x = nI j := by
  by_cases h : x < 0
  · exact Or.inl ⟨h, fun m hm e => nI_pos hm (e ▸ h)⟩
  · obtain ⟨j, hj, rfl⟩ := nI_of h
    by_cases h2 : j < n
    · exact Or.inr (Or.inr ⟨j, h2, rfl⟩)
    · refine Or.inr (Or.inl ⟨h, nI_le (by omega) hj, nI_nlt (by omega) hj, fun m hm => ⟨nI_lt (by omega) hj, nI_ge (by omega) hj, fun e => ?_⟩⟩)
      have := (nI_eq (a := j) (b := m) hj (by omega)).mp e
      omega
end QA
