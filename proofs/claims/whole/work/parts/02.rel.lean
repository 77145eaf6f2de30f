section QR
/-! what the relation holds beside equality -/
def qr_F (fo fl : Nat → Int32) : Prop := ∀ j, ∃ o l, fo j = nI o ∧ fl j = nI l ∧ o + l ≤ 32
def qr_C (kx ky : Nat → Int32) (kc : Int32) : Prop := (∀ k, k < 4 → kx k = ky k) ∧ kx 4 = kc
def qr_K (A : Nat) (xc ya yc : Nat → Int32) : Prop := ∀ i, i < A → (∀ k, k < 4 → xc (i * 5 + k) = ya (i * 4 + k)) ∧ xc (i * 5 + 4) = yc i
def qr_R (A : Nat) (an xl xh yl yh : Nat → Int32) : Prop := ∀ i, i < A → ∀ R, an i = nI R → R ≤ 4 → ∀ r, r < R → xl (i * 4 + r) = yl (i * 4 + r) ∧ xh (i * 4 + r) = yh (i * 4 + r)
theorem qr_F0 : qr_F (fun _ => 0) (fun _ => 0) := fun _ => ⟨0, 0, rfl, rfl, by omega⟩
theorem qr_Fu {fo fl : Nat → Int32} {k o l : Nat} (h : qr_F fo fl) (hw : o + l ≤ 32) : qr_F (upd fo k (nI o)) (upd fl k (nI l)) := by
  intro i
  by_cases e : i = k
  · exact ⟨o, l, if_pos e, if_pos e, hw⟩
  · obtain ⟨o', l', h1, h2, h3⟩ := h i
    exact ⟨o', l', (if_neg e).trans h1, (if_neg e).trans h2, h3⟩
theorem qr_K0 {xc ya yc : Nat → Int32} : qr_K 0 xc ya yc := fun _ h => absurd h (by omega)
theorem qr_R0 {an xl xh yl yh : Nat → Int32} : qr_R 0 an xl xh yl yh := fun _ h => absurd h (by omega)
theorem qr_Ksh {A s : Nat} {xc ya yc : Nat → Int32} (h : qr_K A xc ya yc) (hs : s < A) : qr_K (A - 1) (qa_sh xc (s * 5) ((A - 1) * 5) 5) (qa_sh ya (s * 4) ((A - 1) * 4) 4) (qa_sh yc s (A - 1) 1) := by
  intro i hi
  by_cases z : s ≤ i
  · obtain ⟨h1, h2⟩ := h (i + 1) (by omega)
    refine ⟨fun k hk => ?_, ?_⟩
    · rw [qa_shi (by omega) (by omega), qa_shi (by omega) (by omega)]
      have := h1 k hk
      rw [show (i + 1) * 5 + k = i * 5 + k + 5 by omega, show (i + 1) * 4 + k = i * 4 + k + 4 by omega] at this
      exact this
    · rw [qa_shi (by omega) (by omega), qa_shi (by omega) (by omega)]
      rw [show (i + 1) * 5 + 4 = i * 5 + 4 + 5 by omega] at h2
      exact h2
  · obtain ⟨h1, h2⟩ := h i (by omega)
    refine ⟨fun k hk => ?_, ?_⟩
    · rw [qa_shl (by omega), qa_shl (by omega)]
      exact h1 k hk
    · rw [qa_shl (by omega), qa_shl (by omega)]
      exact h2
theorem qr_Rsh {A s : Nat} {an xl xh yl yh : Nat → Int32} (h : qr_R A an xl xh yl yh) (hs : s < A) : qr_R (A - 1) (qa_sh an s (A - 1) 1) (qa_sh xl (s * 4) ((A - 1) * 4) 4) (qa_sh xh (s * 4) ((A - 1) * 4) 4) (qa_sh yl (s * 4) ((A - 1) * 4) 4) (qa_sh yh (s * 4) ((A - 1) * 4) 4) := by
  intro i hi R eR hR r hr
  by_cases z : s ≤ i
  · rw [qa_shi z hi] at eR
    have := h (i + 1) (by omega) R eR hR r hr
    rw [show (i + 1) * 4 + r = i * 4 + r + 4 by omega] at this
    rw [qa_shi (by omega) (by omega), qa_shi (by omega) (by omega), qa_shi (by omega) (by omega), qa_shi (by omega) (by omega)]
    exact this
  · rw [qa_shl (by omega)] at eR
    rw [qa_shl (by omega), qa_shl (by omega), qa_shl (by omega), qa_shl (by omega)]
    exact h i (by omega) R eR hR r hr
theorem qr_Kcp {A : Nat} {xc ya yc ax ay : Nat → Int32} {ac : Int32} (h : qr_K A xc ya yc) (hc : qr_C ax ay ac) : qr_K (A + 1) (qa_cp xc ax (A * 5) 5) (qa_cp ya ay (A * 4) 4) (upd yc A ac) := by
  intro i hi
  by_cases z : i = A
  · subst z
    refine ⟨fun k hk => ?_, ?_⟩
    · rw [qa_cpi (by omega), qa_cpi hk]
      exact hc.1 k hk
    · rw [qa_cpi (by omega), pk_us]
      exact hc.2
  · obtain ⟨h1, h2⟩ := h i (by omega)
    refine ⟨fun k hk => ?_, ?_⟩
    · rw [qa_cpo (by omega), qa_cpo (by omega)]
      exact h1 k hk
    · rw [qa_cpo (by omega), pk_un z]
      exact h2
theorem qr_Rcp {A C : Nat} {an xl xh yl yh bl bh : Nat → Int32} (h : qr_R A an xl xh yl yh) (hC : C ≤ 4) : qr_R (A + 1) (upd an A (nI C)) (qa_cp xl bl (A * 4) C) (qa_cp xh bh (A * 4) C) (qa_cp yl bl (A * 4) 4) (qa_cp yh bh (A * 4) 4) := by
  intro i hi R eR hR r hr
  by_cases z : i = A
  · subst z
    rw [pk_us] at eR
    have : C = R := (nI_eq (by omega) (by omega)).mp eR
    rw [qa_cpi (by omega), qa_cpi (by omega), qa_cpi (by omega), qa_cpi (by omega)]
    exact ⟨rfl, rfl⟩
  · rw [pk_un z] at eR
    rw [qa_cpo (by omega), qa_cpo (by omega), qa_cpo (by omega), qa_cpo (by omega)]
    exact h i (by omega) R eR hR r hr
theorem qr_Cack {A s : Nat} {kx ky xc ya yc : Nat → Int32} {kc : Int32} (h : qr_C kx ky kc) (hk : qr_K A xc ya yc) (hs : s < A) : qr_C (qa_up kx (fun j => xc (s * 5 + j)) 5) (qa_up ky (fun j => ya (s * 4 + j)) 4) (qa_mx kc (yc s)) := by
  obtain ⟨h1, h2⟩ := hk s hs
  refine ⟨fun k l => ?_, ?_⟩
  · rw [qa_upv (by omega), qa_upv l, h.1 k l]
    rw [h1 k l]
  · rw [qa_upv (by omega), h.2]
    rw [h2]
theorem qr_Cup {ax ay g : Nat → Int32} {ac z : Int32} (h : qr_C ax ay ac) : qr_C (upd (qa_up ax g 4) 4 (qa_mx (ax 4) z)) (qa_up ay g 4) (qa_mx ac z) := by
  refine ⟨fun k l => ?_, ?_⟩
  · rw [pk_un (by omega), qa_upv l, qa_upv l, h.1 k l]
  · rw [pk_us, h.2]
/-- beside equality -/
def qr_I (M N C D A : Nat) (lg kc ac : Int32) (wr kx fo fl cf co rh ax go bl bh dp an xl xh xc ky ay yl yh ya yc : Nat → Int32) : Prop :=
  (1 ≤ M ∧ M ≤ 8 ∧ N ≤ 64 ∧ C ≤ 4 ∧ D ≤ 8 ∧ A ≤ 8) ∧ (lg = -1 ∨ ∃ L, L ≤ 63 ∧ lg = nI L) ∧ qa_B wr 32 ∧ qa_B co 32 ∧ qa_B rh 32 ∧ qa_B cf 1 ∧ qa_B go 1 ∧ qr_F fo fl ∧ qa_B dp 63 ∧ qa_B bl 63 ∧ qa_B bh 63 ∧ qa_B an 4 ∧ qa_B xl 63 ∧ qa_B xh 63 ∧ qr_C kx ky kc ∧ qr_C ax ay ac ∧ qr_K A xc ya yc ∧ qr_R A an xl xh yl yh
/-- the relation: what both sides keep is one function; the five credits in a row are four and one; ranges are alike below their count -/
def i_Rel (_ : Nat) (u : SX) (v : SY) : Prop := ∃ (M N C D A : Nat) (sw cw ld lg nw ls sp vi kc ac : Int32) (wr hg sb mk kx st ss fo fl cb cf co rh ax go bl bh dp an xl xh xc ky ay yl yh ya yc : Nat → Int32), u = (sw, cw, nI M, ld, nI N, lg, nw, ls, sp, nI C, vi, nI D, nI A, wr, hg, sb, mk, kx, st, ss, fo, fl, cb, cf, co, rh, ax, go, bl, bh, dp, an, xl, xh, xc) ∧ v = (sw, cw, nI M, ld, kc, nI N, lg, nw, ls, sp, ac, vi, nI C, nI D, nI A, sb, mk, wr, hg, ky, st, ss, fo, fl, cb, cf, co, rh, ay, go, bl, bh, dp, an, yl, yh, ya, yc) ∧ qr_I M N C D A lg kc ac wr kx fo fl cf co rh ax go bl bh dp an xl xh xc ky ay yl yh ya yc
theorem i_up {k : Nat} {u : SX} {v : SY} (h : i_Rel k u v) : i_Rel (k + 3) u v := h
theorem qr_mk {k : Nat} {M N C D A : Nat} {sw cw ld lg nw ls sp vi kc ac : Int32} {wr hg sb mk kx st ss fo fl cb cf co rh ax go bl bh dp an xl xh xc ky ay yl yh ya yc : Nat → Int32} (h : qr_I M N C D A lg kc ac wr kx fo fl cf co rh ax go bl bh dp an xl xh xc ky ay yl yh ya yc) : i_Rel k (sw, cw, nI M, ld, nI N, lg, nw, ls, sp, nI C, vi, nI D, nI A, wr, hg, sb, mk, kx, st, ss, fo, fl, cb, cf, co, rh, ax, go, bl, bh, dp, an, xl, xh, xc) (sw, cw, nI M, ld, kc, nI N, lg, nw, ls, sp, ac, vi, nI C, nI D, nI A, sb, mk, wr, hg, ky, st, ss, fo, fl, cb, cf, co, rh, ay, go, bl, bh, dp, an, yl, yh, ya, yc) := ⟨M, N, C, D, A, sw, cw, ld, lg, nw, ls, sp, vi, kc, ac, wr, hg, sb, mk, kx, st, ss, fo, fl, cb, cf, co, rh, ax, go, bl, bh, dp, an, xl, xh, xc, ky, ay, yl, yh, ya, yc, rfl, rfl, h⟩
end QR
