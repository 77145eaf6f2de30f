section QI
variable {sw cw mp ld nx lg nw ls sp bc vi dc ak kc ac : Int32} {wr hg sb mk kx st ss fo fl cb cf co rh ax go bl bh dp an xl xh xc ky ay yl yh ya yc : Nat → Int32}
theorem qi_c (v lo hi : Int32) (h : lo ≤ hi) : ∃ r, lo ≤ r ∧ r ≤ hi ∧ (∀ post : Int32 → Prop, post r → wpX_clamp post v lo hi) ∧ (∀ (post : Int32 → Prop) (u : SY), post r → wpY_clamp post u v lo hi) := by
  by_cases z : lo ≤ v
  · by_cases w : v ≤ hi
    · exact ⟨v, z, w, fun post hp => br_t z (br_t w hp), fun post ⟨y0, y1, y2, y3, y4, y5, y6, y7, y8, y9, y10, y11, y12, y13, y14, y15, y16, y17, y18, y19, y20, y21, y22, y23, y24, y25, y26, y27, y28, y29, y30, y31, y32, y33, y34, y35, y36, y37⟩ hp => br_t z (br_t w hp)⟩
    · exact ⟨hi, h, Int32.le_refl _, fun post hp => br_t z (br_f w hp), fun post ⟨y0, y1, y2, y3, y4, y5, y6, y7, y8, y9, y10, y11, y12, y13, y14, y15, y16, y17, y18, y19, y20, y21, y22, y23, y24, y25, y26, y27, y28, y29, y30, y31, y32, y33, y34, y35, y36, y37⟩ hp => br_t z (br_f w hp)⟩
  · exact ⟨lo, Int32.le_refl _, h, fun post hp => br_f z hp, fun post ⟨y0, y1, y2, y3, y4, y5, y6, y7, y8, y9, y10, y11, y12, y13, y14, y15, y16, y17, y18, y19, y20, y21, y22, y23, y24, y25, y26, y27, y28, y29, y30, y31, y32, y33, y34, y35, y36, y37⟩ hp => br_f z hp⟩
def qi_f (c : Int32) (k : Nat) : Nat → Int32 := fun j => if j < k then c else 0
theorem qi_f0 {c : Int32} : qi_f c 0 = fun _ => 0 := by
  funext j
  exact if_neg (by omega)
theorem qi_fs {c : Int32} {k : Nat} (hk : k < 2 ^ 31) : upd (qi_f c k) (nI k).toNatClampNeg c = qi_f c (k + 1) := by
  rw [nI_clamp hk]
  funext j
  by_cases e : j = k
  · subst e
    exact (if_pos rfl).trans (if_pos (by omega)).symm
  · by_cases l : j < k
    · exact (if_neg e).trans ((if_pos l).trans (if_pos (by omega)).symm)
    · exact (if_neg e).trans ((if_neg l).trans (if_neg (by omega)).symm)
theorem qi_C {sw cw : Int32} : qr_C (upd (qi_f sw 4) 4 cw) (qi_f sw 4) cw := ⟨fun k hk => pk_un (by omega), pk_us⟩
theorem qi_x {post : SX → Prop} (h : post (sw, cw, mp, ld, nx, lg, nw, ls, sp, bc, vi, dc, ak, wr, hg, sb, mk, upd (qi_f sw 4) 4 cw, st, ss, fo, fl, cb, cf, co, rh, upd (qi_f sw 4) 4 cw, go, bl, bh, dp, an, xl, xh, xc)) : ∀ d k : Nat, k + d = 4 → wX_init_273 post sw cw mp ld nx lg nw ls sp bc vi dc ak (d + 1) (nI k) wr hg sb mk (qi_f sw k) st ss fo fl cb cf co rh (qi_f sw k) go bl bh dp an xl xh xc := by
  intro d
  induction d with
  | zero =>
    intro k hk
    obtain rfl : k = 4 := by omega
    exact br_t (qm_g4 (by omega) (by omega)) (nm_e (nm_e h))
  | succ d ih =>
    intro k hk
    have h5 : vp_in (nI k) 5 := vp_in_nI (by omega) (by omega)
    exact br_f (qm_l4 (by omega)) ⟨h5, nm_r (qi_fs (by omega)) ⟨h5, nm_r (qi_fs (by omega)) (nm_r (nI_1 k) (ih (k + 1) (by omega)))⟩⟩
theorem qi_y {post : SY → Prop} (h : post (sw, cw, mp, ld, cw, nx, -1, nw, ls, sp, cw, vi, bc, dc, ak, sb, mk, wr, hg, qi_f sw 4, st, ss, fo, fl, cb, cf, co, rh, qi_f sw 4, go, bl, bh, dp, an, yl, yh, ya, yc)) : ∀ d k : Nat, k + d = 4 → wY_init_240 post sw cw mp ld kc nx lg nw ls sp ac vi bc dc ak (d + 1) (nI k) sb mk wr hg (qi_f sw k) st ss fo fl cb cf co rh (qi_f sw k) go bl bh dp an yl yh ya yc := by
  intro d
  induction d with
  | zero =>
    intro k hk
    obtain rfl : k = 4 := by omega
    exact br_t (qm_g4 (by omega) (by omega)) h
  | succ d ih =>
    intro k hk
    have h4 : vp_in (nI k) 4 := vp_in_nI (by omega) (by omega)
    exact br_f (qm_l4 (by omega)) ⟨h4, nm_r (qi_fs (by omega)) ⟨h4, nm_r (qi_fs (by omega)) (nm_r (nI_1 k) (ih (k + 1) (by omega)))⟩⟩

theorem i_vc0 (k0 : Int32) (k1 : Int32) (k2 : Int32) (k3 : Int32) : wpX_init (fun u => wpY_init (fun v => i_Rel 4 u v) k0 k1 k2 k3) k0 k1 k2 k3 := by
  obtain ⟨r1, -, -, hX1, hY1⟩ := qi_c k0 1 32 (by decide)
  obtain ⟨r2, -, -, hX2, hY2⟩ := qi_c k1 1 128 (by decide)
  obtain ⟨r3, a3, b3, hX3, hY3⟩ := qi_c k2 1 8 (by decide)
  obtain ⟨r4, -, -, hX4, hY4⟩ := qi_c k3 1 1000 (by decide)
  obtain ⟨M, hM8, rfl⟩ := nI_of2 (x := r3) (M := 8) (n := 8) (by decide) (Int32.not_lt.mpr (Int32.le_trans (by decide) a3)) b3
  have hM1 : 1 ≤ M := (qa_ge_1 (by omega)).mp a3
  unfold wpX_init
  refine hX1 _ (hX2 _ (hX3 _ (hX4 _ ⟨5, ?_⟩)))
  have hx := qi_x (sw := r1) (cw := r2) (mp := nI M) (ld := r4) (nx := 0) (lg := -1) (nw := 0) (ls := 0) (sp := 0) (bc := 0) (vi := 0) (dc := 0) (ak := 0) (wr := fun _ => 0) (hg := fun _ => 0) (sb := fun _ => 0) (mk := fun _ => 0) (st := fun _ => 0) (ss := fun _ => 0) (fo := fun _ => 0) (fl := fun _ => 0) (cb := fun _ => 0) (cf := fun _ => 0) (co := fun _ => 0) (rh := fun _ => 0) (go := fun _ => 0) (bl := fun _ => 0) (bh := fun _ => 0) (dp := fun _ => 0) (an := fun _ => 0) (xl := fun _ => 0) (xh := fun _ => 0) (xc := fun _ => 0) (post := fun u => wpY_init (fun v => i_Rel 4 u v) k0 k1 k2 k3) ?_ 4 0 rfl
  · rw [qi_f0] at hx
    exact hx
  · show wpY_init _ k0 k1 k2 k3
    unfold wpY_init
    refine hY1 _ _ (hY2 _ _ (hY3 _ _ (hY4 _ _ ⟨5, ?_⟩)))
    have hy := qi_y (sw := r1) (cw := r2) (mp := nI M) (ld := r4) (kc := 0) (nx := 0) (lg := 0) (nw := 0) (ls := 0) (sp := 0) (ac := 0) (vi := 0) (bc := 0) (dc := 0) (ak := 0) (sb := fun _ => 0) (mk := fun _ => 0) (wr := fun _ => 0) (hg := fun _ => 0) (st := fun _ => 0) (ss := fun _ => 0) (fo := fun _ => 0) (fl := fun _ => 0) (cb := fun _ => 0) (cf := fun _ => 0) (co := fun _ => 0) (rh := fun _ => 0) (go := fun _ => 0) (bl := fun _ => 0) (bh := fun _ => 0) (dp := fun _ => 0) (an := fun _ => 0) (yl := fun _ => 0) (yh := fun _ => 0) (ya := fun _ => 0) (yc := fun _ => 0) (post := fun v => i_Rel 4 (r1, r2, nI M, r4, 0, -1, 0, 0, 0, 0, 0, 0, 0, (fun _ => 0), (fun _ => 0), (fun _ => 0), (fun _ => 0), upd (qi_f r1 4) 4 r2, (fun _ => 0), (fun _ => 0), (fun _ => 0), (fun _ => 0), (fun _ => 0), (fun _ => 0), (fun _ => 0), (fun _ => 0), upd (qi_f r1 4) 4 r2, (fun _ => 0), (fun _ => 0), (fun _ => 0), (fun _ => 0), (fun _ => 0), (fun _ => 0), (fun _ => 0), (fun _ => 0)) v) ?_ 4 0 rfl
    · rw [qi_f0] at hy
      exact hy
    · exact qr_mk (M := M) (N := 0) (C := 0) (D := 0) (A := 0) ⟨⟨hM1, hM8, by omega, by omega, by omega, by omega⟩, Or.inl rfl, qa_B0, qa_B0, qa_B0, qa_B0, qa_B0, qr_F0, qa_B0, qa_B0, qa_B0, qa_B0, qa_B0, qa_B0, qi_C, qi_C, qr_K0, qr_R0⟩

end QI
