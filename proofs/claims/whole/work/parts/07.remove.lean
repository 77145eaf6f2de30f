section QD
variable {sw cw mp ld nx lg nw ls sp bc vi dc ak kc ac : Int32} {wr hg sb mk kx st ss fo fl cb cf co rh ax go bl bh dp an xl xh xc ky ay yl yh ya yc : Nat → Int32}
theorem qd_e {a : Nat → Int32} {S i d : Nat} {xi xj : Int32} (hxi : xi = nI i) (hxj : xj = nI (i + d)) (h : S ≤ i) (hi : i + d < 2 ^ 31) : upd (qa_sh a S i d) xi.toNatClampNeg (qa_sh a S i d xj.toNatClampNeg) = qa_sh a S (i + 1) d := by
  subst hxi hxj
  rw [nI_clamp (by omega), nI_clamp hi, qa_shv (by omega)]
  exact qa_shs h
theorem qd_x {D S : Nat} (hS : S < D) (hD : D ≤ 8) {post : SX → Prop} (h : post (sw, cw, mp, ld, nx, lg, nw, ls, sp, bc, vi, nI (D - 1), ak, wr, hg, sb, mk, kx, st, ss, fo, fl, cb, cf, co, rh, ax, go, bl, bh, qa_sh dp S (D - 1) 1, an, xl, xh, xc)) : ∀ d i : Nat, i + d = D - 1 → S ≤ i → wX_removeData_12 post sw cw mp ld nx lg nw ls sp bc vi (nI (D - 1)) ak (d + 1) (nI i) wr hg sb mk kx st ss fo fl cb cf co rh ax go bl bh (qa_sh dp S i 1) an xl xh xc := by
  intro d
  induction d with
  | zero =>
    intro i hi hSi
    obtain rfl : i = D - 1 := by omega
    exact br_t (nI_le (by omega) (by omega)) h
  | succ d ih =>
    intro i hi hSi
    exact br_f (nI_ge (by omega) (by omega)) ⟨pk_in (i + 1) 8 (by omega) (nI_1 i), pk_in i 8 (by omega), nm_r (qd_e rfl (nI_1 i) hSi (by omega)) (nm_r (nI_1 i) (ih (i + 1) (by omega) (by omega)))⟩
theorem qd_y {D S : Nat} (hS : S < D) (hD : D ≤ 8) {post : SY → Prop} (h : post (sw, cw, mp, ld, kc, nx, lg, nw, ls, sp, ac, vi, bc, nI (D - 1), ak, sb, mk, wr, hg, ky, st, ss, fo, fl, cb, cf, co, rh, ay, go, bl, bh, qa_sh dp S (D - 1) 1, an, yl, yh, ya, yc)) : ∀ d i : Nat, i + d = D - 1 → S ≤ i → wY_removeData_2 post sw cw mp ld kc nx lg nw ls sp ac vi bc (nI D) ak (d + 1) (nI i) sb mk wr hg ky st ss fo fl cb cf co rh ay go bl bh (qa_sh dp S i 1) an yl yh ya yc := by
  intro d
  have es : nI D - 1 = nI (D - 1) := qa_s1 (by omega)
  induction d with
  | zero =>
    intro i hi hSi
    obtain rfl : i = D - 1 := by omega
    exact br_t (by rw [es]; exact nI_le (by omega) (by omega)) (nm_r es h)
  | succ d ih =>
    intro i hi hSi
    exact br_f (by rw [es]; exact nI_ge (by omega) (by omega)) (br_f (nI_ge (b := 7) (by omega) (by omega)) ⟨pk_in (i + 1) 8 (by omega) (nI_1 i), pk_in i 8 (by omega), nm_r (qd_e rfl (nI_1 i) hSi (by omega)) (nm_r (nI_1 i) (ih (i + 1) (by omega) (by omega)))⟩)
theorem qd_rd {D S : Nat} (hS : S < D) (hD : D ≤ 8) : (∀ post : SX → Prop, post (sw, cw, mp, ld, nx, lg, nw, ls, sp, bc, vi, nI (D - 1), ak, wr, hg, sb, mk, kx, st, ss, fo, fl, cb, cf, co, rh, ax, go, bl, bh, qa_sh dp S (D - 1) 1, an, xl, xh, xc) → wpX_removeData post (sw, cw, mp, ld, nx, lg, nw, ls, sp, bc, vi, nI D, ak, wr, hg, sb, mk, kx, st, ss, fo, fl, cb, cf, co, rh, ax, go, bl, bh, dp, an, xl, xh, xc) (nI S)) ∧ (∀ post : SY → Prop, post (sw, cw, mp, ld, kc, nx, lg, nw, ls, sp, ac, vi, bc, nI (D - 1), ak, sb, mk, wr, hg, ky, st, ss, fo, fl, cb, cf, co, rh, ay, go, bl, bh, qa_sh dp S (D - 1) 1, an, yl, yh, ya, yc) → wpY_removeData post (sw, cw, mp, ld, kc, nx, lg, nw, ls, sp, ac, vi, bc, nI D, ak, sb, mk, wr, hg, ky, st, ss, fo, fl, cb, cf, co, rh, ay, go, bl, bh, dp, an, yl, yh, ya, yc) (nI S)) := by
  refine ⟨fun post h => nm_r (qa_s1 (by omega)) ⟨D - 1 - S + 1, ?_⟩, fun post h => ⟨D - 1 - S + 1, ?_⟩⟩
  · have := qd_x hS hD h (D - 1 - S) S (by omega) (by omega)
    rw [qa_sh0 (Nat.le_refl S)] at this
    exact this
  · have := qd_y hS hD h (D - 1 - S) S (by omega) (by omega)
    rw [qa_sh0 (Nat.le_refl S)] at this
    exact this
/-! the ACK channel: X's three loops -/
theorem qd_x3 {A S : Nat} (hS : S < A) (hA : A ≤ 8) {post : SX → Prop} (h : post (sw, cw, mp, ld, nx, lg, nw, ls, sp, bc, vi, dc, nI (A - 1), wr, hg, sb, mk, kx, st, ss, fo, fl, cb, cf, co, rh, ax, go, bl, bh, dp, an, xl, xh, qa_sh xc (S * 5) ((A - 1) * 5) 5)) : ∀ d i : Nat, i + d = (A - 1) * 5 → S * 5 ≤ i → wX_removeAck_92 post sw cw mp ld nx lg nw ls sp bc vi dc (nI (A - 1)) (d + 1) (nI i) wr hg sb mk kx st ss fo fl cb cf co rh ax go bl bh dp an xl xh (qa_sh xc (S * 5) i 5) := by
  intro d
  have es : nI (A - 1) * 5 = nI ((A - 1) * 5) := qa_m_5 _
  induction d with
  | zero =>
    intro i hi hSi
    obtain rfl : i = (A - 1) * 5 := by omega
    exact br_t (by rw [es]; exact nI_le (by omega) (by omega)) h
  | succ d ih =>
    intro i hi hSi
    exact br_f (by rw [es]; exact nI_ge (by omega) (by omega)) ⟨pk_in (i + 5) 40 (by omega) (qa_p_5 i), pk_in i 40 (by omega), nm_r (qd_e rfl (qa_p_5 i) hSi (by omega)) (nm_r (nI_1 i) (ih (i + 1) (by omega) (by omega)))⟩
theorem qd_x2 {A S : Nat} (hS : S < A) (hA : A ≤ 8) {post : SX → Prop} (h : post (sw, cw, mp, ld, nx, lg, nw, ls, sp, bc, vi, dc, nI (A - 1), wr, hg, sb, mk, kx, st, ss, fo, fl, cb, cf, co, rh, ax, go, bl, bh, dp, an, qa_sh xl (S * 4) ((A - 1) * 4) 4, qa_sh xh (S * 4) ((A - 1) * 4) 4, qa_sh xc (S * 5) ((A - 1) * 5) 5)) : ∀ d i : Nat, i + d = (A - 1) * 4 → S * 4 ≤ i → wX_removeAck_44 post (nI S) sw cw mp ld nx lg nw ls sp bc vi dc (nI (A - 1)) (d + 1) (nI i) wr hg sb mk kx st ss fo fl cb cf co rh ax go bl bh dp an (qa_sh xl (S * 4) i 4) (qa_sh xh (S * 4) i 4) xc := by
  intro d
  have es : nI (A - 1) * 4 = nI ((A - 1) * 4) := qa_m_4 _
  induction d with
  | zero =>
    intro i hi hSi
    obtain rfl : i = (A - 1) * 4 := by omega
    refine br_t (by rw [es]; exact nI_le (by omega) (by omega)) (nm_r (qa_m_5 S) ⟨(A - 1) * 5 - S * 5 + 1, ?_⟩)
    have := qd_x3 hS hA h ((A - 1) * 5 - S * 5) (S * 5) (by omega) (by omega)
    rw [qa_sh0 (Nat.le_refl (S * 5))] at this
    exact this
  | succ d ih =>
    intro i hi hSi
    have h1 : vp_in (nI i + 4) 32 := pk_in (i + 4) 32 (by omega) (qa_p_4 i)
    have h2 : vp_in (nI i) 32 := pk_in i 32 (by omega)
    exact br_f (by rw [es]; exact nI_ge (by omega) (by omega)) ⟨h1, h2, nm_r (qd_e rfl (qa_p_4 i) hSi (by omega)) ⟨h1, h2, nm_r (qd_e rfl (qa_p_4 i) hSi (by omega)) (nm_r (nI_1 i) (ih (i + 1) (by omega) (by omega)))⟩⟩
theorem qd_x1 {A S : Nat} (hS : S < A) (hA : A ≤ 8) {post : SX → Prop} (h : post (sw, cw, mp, ld, nx, lg, nw, ls, sp, bc, vi, dc, nI (A - 1), wr, hg, sb, mk, kx, st, ss, fo, fl, cb, cf, co, rh, ax, go, bl, bh, dp, qa_sh an S (A - 1) 1, qa_sh xl (S * 4) ((A - 1) * 4) 4, qa_sh xh (S * 4) ((A - 1) * 4) 4, qa_sh xc (S * 5) ((A - 1) * 5) 5)) : ∀ d i : Nat, i + d = A - 1 → S ≤ i → wX_removeAck_12 post (nI S) sw cw mp ld nx lg nw ls sp bc vi dc (nI (A - 1)) (d + 1) (nI i) wr hg sb mk kx st ss fo fl cb cf co rh ax go bl bh dp (qa_sh an S i 1) xl xh xc := by
  intro d
  induction d with
  | zero =>
    intro i hi hSi
    obtain rfl : i = A - 1 := by omega
    refine br_t (nI_le (by omega) (by omega)) (nm_r (qa_m_4 S) ⟨(A - 1) * 4 - S * 4 + 1, ?_⟩)
    have := qd_x2 hS hA h ((A - 1) * 4 - S * 4) (S * 4) (by omega) (by omega)
    rw [qa_sh0 (Nat.le_refl (S * 4)), qa_sh0 (Nat.le_refl (S * 4))] at this
    exact this
  | succ d ih =>
    intro i hi hSi
    exact br_f (nI_ge (by omega) (by omega)) ⟨pk_in (i + 1) 8 (by omega) (nI_1 i), pk_in i 8 (by omega), nm_r (qd_e rfl (nI_1 i) hSi (by omega)) (nm_r (nI_1 i) (ih (i + 1) (by omega) (by omega)))⟩
/-! .. and Y's nested ones -/
theorem qd_y2 {A S j : Nat} (hS : S < A) (hA : A ≤ 8) (hj : j + 1 < A) (hSj : S ≤ j) {post : SY → Prop} {J : Int32 → qt_B} (h : J (nI (j + 1)) sb mk wr hg ky st ss fo fl cb cf co rh ay go bl bh dp an (qa_sh yl (S * 4) ((j + 1) * 4) 4) (qa_sh yh (S * 4) ((j + 1) * 4) 4) (qa_sh ya (S * 4) ((j + 1) * 4) 4) yc) : ∀ d k : Nat, k + d = 4 → wY_removeAck_48 post J (nI j) sw cw mp ld kc nx lg nw ls sp ac vi bc dc ak (d + 1) (nI k) sb mk wr hg ky st ss fo fl cb cf co rh ay go bl bh dp an (qa_sh yl (S * 4) (j * 4 + k) 4) (qa_sh yh (S * 4) (j * 4 + k) 4) (qa_sh ya (S * 4) (j * 4 + k) 4) yc := by
  intro d
  induction d with
  | zero =>
    intro k hk
    obtain rfl : k = 4 := by omega
    rw [show (j + 1) * 4 = j * 4 + 4 by omega] at h
    exact br_t (nI_le (a := 4) (by omega) (by omega)) (nm_r (nI_1 j) h)
  | succ d ih =>
    intro k hk
    have e1 : nI j * 4 + nI k = nI (j * 4 + k) := by rw [qa_m_4, nI_add]
    have e2 : nI j * 4 + 4 + nI k = nI (j * 4 + k + 4) := by
      rw [qa_m_4, qa_p_4, nI_add]
      exact congrArg nI (by omega)
    have h1 : vp_in (nI j * 4 + 4 + nI k) 32 := pk_in (j * 4 + k + 4) 32 (by omega) e2
    have h2 : vp_in (nI j * 4 + nI k) 32 := pk_in (j * 4 + k) 32 (by omega) e1
    exact br_f (qm_l4 (by omega)) ⟨h1, h2, nm_r (qd_e e1 e2 (by omega) (by omega)) ⟨h1, h2, nm_r (qd_e e1 e2 (by omega) (by omega)) ⟨h1, h2, nm_r (qd_e e1 e2 (by omega) (by omega)) (nm_r (nI_1 k) (ih (k + 1) (by omega)))⟩⟩⟩
theorem qd_y1 {A S : Nat} (hS : S < A) (hA : A ≤ 8) {post : SY → Prop} (h : post (sw, cw, mp, ld, kc, nx, lg, nw, ls, sp, ac, vi, bc, dc, nI (A - 1), sb, mk, wr, hg, ky, st, ss, fo, fl, cb, cf, co, rh, ay, go, bl, bh, dp, qa_sh an S (A - 1) 1, qa_sh yl (S * 4) ((A - 1) * 4) 4, qa_sh yh (S * 4) ((A - 1) * 4) 4, qa_sh ya (S * 4) ((A - 1) * 4) 4, qa_sh yc S (A - 1) 1)) : ∀ d i : Nat, i + d = A - 1 → S ≤ i → wY_removeAck_2 post sw cw mp ld kc nx lg nw ls sp ac vi bc dc (nI A) (d + 1) (nI i) sb mk wr hg ky st ss fo fl cb cf co rh ay go bl bh dp (qa_sh an S i 1) (qa_sh yl (S * 4) (i * 4) 4) (qa_sh yh (S * 4) (i * 4) 4) (qa_sh ya (S * 4) (i * 4) 4) (qa_sh yc S i 1) := by
  intro d
  have es : nI A - 1 = nI (A - 1) := qa_s1 (by omega)
  induction d with
  | zero =>
    intro i hi hSi
    obtain rfl : i = A - 1 := by omega
    exact br_t (by rw [es]; exact nI_le (by omega) (by omega)) (nm_r es h)
  | succ d ih =>
    intro i hi hSi
    have h1 : vp_in (nI i + 1) 8 := pk_in (i + 1) 8 (by omega) (nI_1 i)
    have h2 : vp_in (nI i) 8 := pk_in i 8 (by omega)
    exact br_f (by rw [es]; exact nI_ge (by omega) (by omega)) (br_f (nI_ge (b := 7) (by omega) (by omega)) ⟨h1, h2, nm_r (qd_e rfl (nI_1 i) hSi (by omega)) ⟨h1, h2, nm_r (qd_e rfl (nI_1 i) hSi (by omega)) ⟨5, qd_y2 hS hA (by omega) hSi (ih (i + 1) (by omega) (by omega)) 4 0 (by omega)⟩⟩⟩)
theorem qd_ra {A S : Nat} (hS : S < A) (hA : A ≤ 8) : (∀ post : SX → Prop, post (sw, cw, mp, ld, nx, lg, nw, ls, sp, bc, vi, dc, nI (A - 1), wr, hg, sb, mk, kx, st, ss, fo, fl, cb, cf, co, rh, ax, go, bl, bh, dp, qa_sh an S (A - 1) 1, qa_sh xl (S * 4) ((A - 1) * 4) 4, qa_sh xh (S * 4) ((A - 1) * 4) 4, qa_sh xc (S * 5) ((A - 1) * 5) 5) → wpX_removeAck post (sw, cw, mp, ld, nx, lg, nw, ls, sp, bc, vi, dc, nI A, wr, hg, sb, mk, kx, st, ss, fo, fl, cb, cf, co, rh, ax, go, bl, bh, dp, an, xl, xh, xc) (nI S)) ∧ (∀ post : SY → Prop, post (sw, cw, mp, ld, kc, nx, lg, nw, ls, sp, ac, vi, bc, dc, nI (A - 1), sb, mk, wr, hg, ky, st, ss, fo, fl, cb, cf, co, rh, ay, go, bl, bh, dp, qa_sh an S (A - 1) 1, qa_sh yl (S * 4) ((A - 1) * 4) 4, qa_sh yh (S * 4) ((A - 1) * 4) 4, qa_sh ya (S * 4) ((A - 1) * 4) 4, qa_sh yc S (A - 1) 1) → wpY_removeAck post (sw, cw, mp, ld, kc, nx, lg, nw, ls, sp, ac, vi, bc, dc, nI A, sb, mk, wr, hg, ky, st, ss, fo, fl, cb, cf, co, rh, ay, go, bl, bh, dp, an, yl, yh, ya, yc) (nI S)) := by
  refine ⟨fun post h => nm_r (qa_s1 (by omega)) ⟨A - 1 - S + 1, ?_⟩, fun post h => ⟨A - 1 - S + 1, ?_⟩⟩
  · have := qd_x1 hS hA h (A - 1 - S) S (by omega) (by omega)
    rw [qa_sh0 (Nat.le_refl S)] at this
    exact this
  · have := qd_y1 hS hA h (A - 1 - S) S (by omega) (by omega)
    rw [qa_sh0 (Nat.le_refl S), qa_sh0 (Nat.le_refl S), qa_sh0 (Nat.le_refl (S * 4)), qa_sh0 (Nat.le_refl (S * 4)), qa_sh0 (Nat.le_refl (S * 4))] at this
    exact this

theorem i_vc_drop {k : Nat} {u : SX} {v : SY} (I : i_Rel k u v) (hk : k + 3 ≤ 1540) (v1 : Int32) (v2 : Int32) : wpX_drop (fun r u' => wpY_drop (fun r' v' => r' = r ∧ i_Rel (k + 3) u' v') v v1 v2) u v1 v2 := by
  obtain ⟨M, N, C, D, A, sw, cw, ld, lg, nw, ls, sp, vi, kc, ac, wr, hg, sb, mk, kx, st, ss, fo, fl, cb, cf, co, rh, ax, go, bl, bh, dp, an, xl, xh, xc, ky, ay, yl, yh, ya, yc, rfl, rfl, hI⟩ := I
  obtain ⟨⟨hM1, hM8, hN, hC, hD, hA⟩, hlg, hwr, hco, hrh, hcf, hgo, hF, hdp, hbl, hbh, han, hxl, hxh, hkx, hax, hK, hR⟩ := id hI
  by_cases e0 : v1 = 0
  · rcases qa_ix v2 (n := D) (by omega) with ⟨h0, hm⟩ | ⟨h0, h1, h2, hm⟩ | ⟨j, hj, rfl⟩
    · exact br_t e0 (br_t h0 (br_t rfl (br_t e0 (br_t h0 (br_f qa_10 ⟨rfl, qr_mk hI⟩)))))
    · exact br_t e0 (br_f h0 (br_t h1 (br_t rfl (br_t e0 (br_f h0 (br_f h2 (br_f qa_10 ⟨rfl, qr_mk hI⟩)))))))
    · have h0 := nI_pos (n := j) (by omega)
      obtain ⟨hX, hY⟩ := qd_rd (sw := sw) (cw := cw) (mp := nI M) (ld := ld) (nx := nI N) (lg := lg) (nw := nw) (ls := ls) (sp := sp) (bc := nI C) (vi := vi) (ak := nI A) (wr := wr) (hg := hg) (sb := sb) (mk := mk) (kx := kx) (st := st) (ss := ss) (fo := fo) (fl := fl) (cb := cb) (cf := cf) (co := co) (rh := rh) (ax := ax) (go := go) (bl := bl) (bh := bh) (dp := dp) (an := an) (xl := xl) (xh := xh) (xc := xc) (kc := kc) (ac := ac) (ky := ky) (ay := ay) (yl := yl) (yh := yh) (ya := ya) (yc := yc) hj hD
      exact br_t e0 (br_f h0 (br_f (nI_ge hj (by omega)) (br_f qa_10 (br_t e0 (hX _ (br_t e0 (br_f h0 (br_t (nI_lt hj (by omega)) (br_t rfl (br_t e0 (hY _ ⟨rfl, qr_mk ⟨⟨hM1, hM8, hN, hC, by omega, hA⟩, hlg, hwr, hco, hrh, hcf, hgo, hF, qa_Bsh hdp, hbl, hbh, han, hxl, hxh, hkx, hax, hK, hR⟩⟩)))))))))))
  · by_cases e1 : v1 = 1
    · rcases qa_ix v2 (n := A) (by omega) with ⟨h0, hm⟩ | ⟨h0, h1, h2, hm⟩ | ⟨j, hj, rfl⟩
      · exact br_f e0 (br_t e1 (br_t h0 (br_t rfl (br_f e0 (br_t e1 (br_t h0 (br_f qa_10 ⟨rfl, qr_mk hI⟩)))))))
      · exact br_f e0 (br_t e1 (br_f h0 (br_t h1 (br_t rfl (br_f e0 (br_t e1 (br_f h0 (br_f h2 (br_f qa_10 ⟨rfl, qr_mk hI⟩)))))))))
      · have h0 := nI_pos (n := j) (by omega)
        obtain ⟨hX, hY⟩ := qd_ra (sw := sw) (cw := cw) (mp := nI M) (ld := ld) (nx := nI N) (lg := lg) (nw := nw) (ls := ls) (sp := sp) (bc := nI C) (vi := vi) (dc := nI D) (wr := wr) (hg := hg) (sb := sb) (mk := mk) (kx := kx) (st := st) (ss := ss) (fo := fo) (fl := fl) (cb := cb) (cf := cf) (co := co) (rh := rh) (ax := ax) (go := go) (bl := bl) (bh := bh) (dp := dp) (an := an) (xl := xl) (xh := xh) (xc := xc) (kc := kc) (ac := ac) (ky := ky) (ay := ay) (yl := yl) (yh := yh) (ya := ya) (yc := yc) hj hA
        exact br_f e0 (br_t e1 (br_f h0 (br_f (nI_ge hj (by omega)) (br_f qa_10 (br_f e0 (hX _ (br_f e0 (br_t e1 (br_f h0 (br_t (nI_lt hj (by omega)) (br_t rfl (br_f e0 (hY _ ⟨rfl, qr_mk ⟨⟨hM1, hM8, hN, hC, hD, by omega⟩, hlg, hwr, hco, hrh, hcf, hgo, hF, hdp, hbl, hbh, qa_Bsh han, qa_Bsh hxl, qa_Bsh hxh, hkx, hax, qr_Ksh hK hj, qr_Rsh hR hj⟩⟩)))))))))))))
    · exact br_f e0 (br_f e1 (br_t rfl (br_f e0 (br_f e1 (br_f qa_10 ⟨rfl, qr_mk hI⟩)))))
end QD
