section QS
variable {sw cw mp ld nx lg nw ls sp bc vi dc ak kc ac : Int32} {wr hg sb mk kx st ss fo fl cb cf co rh ax go bl bh dp an xl xh xc ky ay yl yh ya yc : Nat → Int32}
/-! credits raised -/
theorem qs_x1 {post : SX → Prop} (h : post (sw, cw, mp, ld, nx, lg, nw, ls, sp, bc, vi, dc, ak, wr, hg, sb, mk, kx, st, ss, fo, fl, cb, cf, co, rh, upd (qa_up ax (fun j => qa_mn 32 (co j + sw)) 4) 4 (qa_mx (ax 4) (qa_mn 128 (qv_sm co + cw))), go, bl, bh, dp, an, xl, xh, xc)) : ∀ d k : Nat, k + d = 4 → wX_raiseAdvertisedCredit_2 post sw cw mp ld nx lg nw ls sp bc vi dc ak (d + 1) (nI k) wr hg sb mk kx st ss fo fl cb cf co rh (qa_up ax (fun j => qa_mn 32 (co j + sw)) k) go bl bh dp an xl xh xc := by
  intro d
  induction d with
  | zero =>
    intro k hk
    obtain rfl : k = 4 := by omega
    have e : upd (qa_up ax (fun j => qa_mn 32 (co j + sw)) 4) 4 (qa_mx (qa_up ax (fun j => qa_mn 32 (co j + sw)) 4 4) (qa_mn 128 (qv_sm co + cw))) = upd (qa_up ax (fun j => qa_mn 32 (co j + sw)) 4) 4 (qa_mx (ax 4) (qa_mn 128 (qv_sm co + cw))) := by rw [qa_upn (Nat.le_refl 4)]
    exact br_t (qm_g4 (by omega) (by omega)) (qv_sX2 (nm_e (qv_le (qv_gr (nm_r e h)))))
  | succ d ih =>
    intro k hk
    have h4 : vp_in (nI k) 4 := vp_in_nI (by omega) (by omega)
    have h5 : vp_in (nI k) 5 := vp_in_nI (by omega) (by omega)
    have e : upd (qa_up ax (fun j => qa_mn 32 (co j + sw)) k) (nI k).toNatClampNeg (qa_mx (qa_up ax (fun j => qa_mn 32 (co j + sw)) k (nI k).toNatClampNeg) (qa_mn 32 (co (nI k).toNatClampNeg + sw))) = qa_up ax (fun j => qa_mn 32 (co j + sw)) (k + 1) := by
      rw [nI_clamp (by omega), qa_upn (Nat.le_refl k)]
      exact qa_ups (g := (fun j => qa_mn 32 (co j + sw)))
    exact br_f (qm_l4 (by omega)) ⟨h4, qv_le ⟨h5, qv_gr ⟨h5, nm_r e (nm_r (nI_1 k) (ih (k + 1) (by omega)))⟩⟩⟩
theorem qs_xr {post : SX → Prop} (h : post (sw, cw, mp, ld, nx, lg, nw, ls, sp, bc, vi, dc, ak, wr, hg, sb, mk, kx, st, ss, fo, fl, cb, cf, co, rh, upd (qa_up ax (fun j => qa_mn 32 (co j + sw)) 4) 4 (qa_mx (ax 4) (qa_mn 128 (qv_sm co + cw))), go, bl, bh, dp, an, xl, xh, xc)) : wpX_raiseAdvertisedCredit post (sw, cw, mp, ld, nx, lg, nw, ls, sp, bc, vi, dc, ak, wr, hg, sb, mk, kx, st, ss, fo, fl, cb, cf, co, rh, ax, go, bl, bh, dp, an, xl, xh, xc) := by
  have := qs_x1 h 4 0 rfl
  rw [qa_up0] at this
  exact ⟨5, this⟩
def qs_t (a : Nat → Int32) : Nat → Int32
  | 0 => 0
  | k + 1 => qs_t a k + a k
theorem qs_t4 (a : Nat → Int32) : qs_t a 4 = qv_sm a := by
  have e0 : (0 : Int32).toNatClampNeg = 0 := by decide
  have e1 : (1 : Int32).toNatClampNeg = 1 := by decide
  have e2 : (2 : Int32).toNatClampNeg = 2 := by decide
  have e3 : (3 : Int32).toNatClampNeg = 3 := by decide
  unfold qv_sm
  rw [e0, e1, e2, e3]
  rfl
theorem qs_41 {k : Nat} (hk : k < 4) {post : Int32 → SY → Prop} {J : Int32 → Int32 → qt_B} (h : J (qs_t co (k + 1)) (nI (k + 1)) sb mk wr hg ky st ss fo fl cb cf co rh (qa_up ay (fun j => qa_mn 32 (co j + sw)) (k + 1)) go bl bh dp an yl yh ya yc) : wY_sendAck_41 post J (qs_t co k) (nI k) (qa_mn 32 (co (nI k).toNatClampNeg + sw)) sw cw mp ld kc nx lg nw ls sp ac vi bc dc ak sb mk wr hg ky st ss fo fl cb cf co rh (qa_up ay (fun j => qa_mn 32 (co j + sw)) k) go bl bh dp an yl yh ya yc := by
  have h4 : vp_in (nI k) 4 := vp_in_nI (by omega) (by omega)
  have ec : (nI k).toNatClampNeg = k := nI_clamp (by omega)
  have et : qs_t co k + co (nI k).toNatClampNeg = qs_t co (k + 1) := by rw [ec]; rfl
  have ev : qa_up ay (fun j => qa_mn 32 (co j + sw)) k (nI k).toNatClampNeg = ay k := by rw [ec, qa_upn (Nat.le_refl k)]
  by_cases z : qa_mn 32 (co (nI k).toNatClampNeg + sw) ≤ qa_up ay (fun j => qa_mn 32 (co j + sw)) k (nI k).toNatClampNeg
  · have z2 := z
    rw [ev, ec] at z2
    have eu : qa_up ay (fun j => qa_mn 32 (co j + sw)) (k + 1) = qa_up ay (fun j => qa_mn 32 (co j + sw)) k := qa_upk (f := ay) (g := (fun j => qa_mn 32 (co j + sw))) (n := k) (qa_mx2 (a := ay k) (b := qa_mn 32 (co k + sw)) (Int32.not_lt.mpr z2))
    rw [eu] at h
    exact ⟨h4, br_t z ⟨h4, nm_r et (nm_r (nI_1 k) h)⟩⟩
  · have z2 := z
    rw [ev, ec] at z2
    have e : upd (qa_up ay (fun j => qa_mn 32 (co j + sw)) k) (nI k).toNatClampNeg (qa_mn 32 (co (nI k).toNatClampNeg + sw)) = qa_up ay (fun j => qa_mn 32 (co j + sw)) (k + 1) := by
      rw [ec, ← qa_ups (f := ay) (g := (fun j => qa_mn 32 (co j + sw))) (n := k)]
      exact congrArg (upd _ k) (qa_mx1 (a := ay k) (b := qa_mn 32 (co k + sw)) (Int32.not_le.mp z2)).symm
    exact ⟨h4, br_f z ⟨h4, nm_r e ⟨h4, nm_r et (nm_r (nI_1 k) h)⟩⟩⟩
theorem qs_91 {x : Int32} {post : Int32 → SY → Prop} (h : ∃ n, wY_sendAck_113 post sw cw mp ld kc nx lg nw ls sp (qa_mx ac x) vi bc dc ak n 0 0 63 sb mk wr hg ky st ss fo fl cb cf co rh ay go bl bh dp an yl yh ya yc) : wY_sendAck_91 post x sw cw mp ld kc nx lg nw ls sp ac vi bc dc ak sb mk wr hg ky st ss fo fl cb cf co rh ay go bl bh dp an yl yh ya yc := by
  by_cases z : x ≤ ac
  · rw [qa_mx2 (Int32.not_lt.mpr z)] at h
    exact br_t z h
  · rw [qa_mx1 (Int32.not_le.mp z)] at h
    exact br_f z h
theorem qs_y1 {post : Int32 → SY → Prop} (h : ∃ n, wY_sendAck_113 post sw cw mp ld kc nx lg nw ls sp (qa_mx ac (qa_mn 128 (qv_sm co + cw))) vi bc dc ak n 0 0 63 sb mk wr hg ky st ss fo fl cb cf co rh (qa_up ay (fun j => qa_mn 32 (co j + sw)) 4) go bl bh dp an yl yh ya yc) : ∀ d k : Nat, k + d = 4 → wY_sendAck_15 post sw cw mp ld kc nx lg nw ls sp ac vi bc dc ak (d + 1) (qs_t co k) (nI k) sb mk wr hg ky st ss fo fl cb cf co rh (qa_up ay (fun j => qa_mn 32 (co j + sw)) k) go bl bh dp an yl yh ya yc := by
  intro d
  induction d with
  | zero =>
    intro k hk
    obtain rfl : k = 4 := by omega
    refine br_t (qm_g4 (by omega) (by omega)) (nm_r (by rw [qs_t4]) ?_)
    by_cases z : qv_sm co + cw ≤ 128
    · rw [qa_mn3 z] at h
      exact br_t z (qs_91 h)
    · rw [qa_mn4 z] at h
      exact br_f z (qs_91 h)
  | succ d ih =>
    intro k hk
    have h4 : vp_in (nI k) 4 := vp_in_nI (by omega) (by omega)
    have I := qs_41 (sw := sw) (cw := cw) (mp := mp) (ld := ld) (nx := nx) (lg := lg) (nw := nw) (ls := ls) (sp := sp) (bc := bc) (vi := vi) (dc := dc) (ak := ak) (wr := wr) (hg := hg) (sb := sb) (mk := mk) (st := st) (ss := ss) (fo := fo) (fl := fl) (cb := cb) (cf := cf) (co := co) (rh := rh) (go := go) (bl := bl) (bh := bh) (dp := dp) (an := an) (kc := kc) (ac := ac) (ky := ky) (ay := ay) (yl := yl) (yh := yh) (ya := ya) (yc := yc) (post := post) (k := k) (by omega) (ih (k + 1) (by omega))
    refine br_f (qm_l4 (by omega)) ⟨h4, nm_e ?_⟩
    by_cases z : co (nI k).toNatClampNeg + sw ≤ 32
    · rw [qa_mn3 z] at I
      exact br_t z I
    · rw [qa_mn4 z] at I
      exact br_f z I
theorem qs_yr {post : Int32 → SY → Prop} (h : ∃ n, wY_sendAck_113 post sw cw mp ld kc nx lg nw ls sp (qa_mx ac (qa_mn 128 (qv_sm co + cw))) vi bc dc ak n 0 0 63 sb mk wr hg ky st ss fo fl cb cf co rh (qa_up ay (fun j => qa_mn 32 (co j + sw)) 4) go bl bh dp an yl yh ya yc) : ∃ n, wY_sendAck_15 post sw cw mp ld kc nx lg nw ls sp ac vi bc dc ak n 0 0 sb mk wr hg ky st ss fo fl cb cf co rh ay go bl bh dp an yl yh ya yc := by
  have := qs_y1 h 4 0 rfl
  rw [qa_up0] at this
  exact ⟨5, this⟩
/-! the ranges -/
theorem qs_rg (hgo : qa_B go 1) : ∀ (d c n : Nat) (xi yi : Int32) (bl bh : Nat → Int32), d ≤ 64 → (xi = 0 ∧ yi = 0 ∧ c = n ∧ n ≤ 4) ∨ (¬ xi = 0 ∧ ¬ yi = 0 ∧ c = n + 1 ∧ n < 4) → qa_B bl 63 → qa_B bh 63 → ∃ C bl' bh', C ≤ 4 ∧ qa_B bl' 63 ∧ qa_B bh' 63 ∧ (∀ post : SX → Prop, post (sw, cw, mp, ld, nx, lg, nw, ls, sp, nI C, vi, dc, ak, wr, hg, sb, mk, kx, st, ss, fo, fl, cb, cf, co, rh, ax, go, bl', bh', dp, an, xl, xh, xc) → wX_buildRanges_7 post sw cw mp ld nx lg nw ls sp bc vi dc ak (d + 1) (nI c) xi (nI d + (-1)) wr hg sb mk kx st ss fo fl cb cf co rh ax go bl bh dp an xl xh xc) ∧ (∀ post : Int32 → SY → Prop, wY_sendAck_199 post (nI C) sw cw mp ld kc nx lg nw ls sp ac vi bc dc ak sb mk wr hg ky st ss fo fl cb cf co rh ay go bl' bh' dp an yl yh ya yc → wY_sendAck_113 post sw cw mp ld kc nx lg nw ls sp ac vi bc dc ak (d + 1) (nI n) yi (nI d + (-1)) sb mk wr hg ky st ss fo fl cb cf co rh ay go bl bh dp an yl yh ya yc) := by
  intro d
  induction d with
  | zero =>
    intro c n xi yi bl bh hd hc hbl hbh
    have hm : nI 0 + (-1) < 0 := by decide
    rcases hc with ⟨x0, y0, rfl, hn⟩ | ⟨x0, y0, rfl, hn⟩
    · exact ⟨c, bl, bh, hn, hbl, hbh, fun post h => br_t hm h, fun post h => br_t hm (br_t y0 h)⟩
    · exact ⟨n + 1, bl, bh, by omega, hbl, hbh, fun post h => br_t hm h, fun post h => br_t hm (br_f y0 (nm_r (nI_1 n) h))⟩
  | succ p ih =>
    intro c n xi yi bl bh hd hc hbl hbh
    rw [pk_m1 p]
    have h0 : ¬ nI p < 0 := nI_pos (by omega)
    have hi : vp_in (nI p) 64 := vp_in_nI (by omega) (by omega)
    by_cases g : go (nI p).toNatClampNeg = 0
    · rcases hc with ⟨x0, y0, rfl, hn⟩ | ⟨x0, y0, rfl, hn⟩
      · obtain ⟨C, bl', bh', hC, hl, hh, hX, hY⟩ := ih c c (go (nI p).toNatClampNeg) yi bl bh (by omega) (Or.inl ⟨g, y0, rfl, hn⟩) hbl hbh
        exact ⟨C, bl', bh', hC, hl, hh, fun post h => br_f h0 ⟨hi, br_t g ⟨hi, br_t g ⟨hi, nm_e (nm_e (hX post h))⟩⟩⟩, fun post h => br_f h0 ⟨hi, br_t g (br_t y0 (nm_e (hY post h)))⟩⟩
      · obtain ⟨C, bl', bh', hC, hl, hh, hX, hY⟩ := ih (n + 1) (n + 1) (go (nI p).toNatClampNeg) 0 bl bh (by omega) (Or.inl ⟨g, rfl, rfl, by omega⟩) hbl hbh
        exact ⟨C, bl', bh', hC, hl, hh, fun post h => br_f h0 ⟨hi, br_t g ⟨hi, br_t g ⟨hi, nm_e (nm_e (hX post h))⟩⟩⟩, fun post h => br_f h0 ⟨hi, br_t g (br_f y0 (nm_r (nI_1 n) (nm_e (hY post h))))⟩⟩
    · rcases hc with ⟨x0, y0, rfl, hn⟩ | ⟨x0, y0, rfl, hn⟩
      · by_cases z : nI c = 4
        · exact ⟨c, bl, bh, hn, hbl, hbh, fun post h => br_f h0 ⟨hi, br_f g (br_t x0 (br_t z h))⟩, fun post h => br_f h0 ⟨hi, br_f g (br_t y0 (br_t z (br_t y0 h)))⟩⟩
        · have hc4 : c < 4 := by
            rcases Nat.lt_or_ge c 4 with l | l
            · exact l
            · exact absurd ((qa_eq_4 (by omega)).mpr (by omega)) z
          have h4 : vp_in (nI c) 4 := vp_in_nI hc4 (by omega)
          have em : nI (c + 1) - 1 = nI c := nI_pred c
          obtain ⟨C, bl', bh', hC, hl, hh, hX, hY⟩ := ih (c + 1) c (go (nI p).toNatClampNeg) 1 (upd bl (nI c).toNatClampNeg (nI p)) (upd bh (nI c).toNatClampNeg (nI p)) (by omega) (Or.inr ⟨g, qa_10, rfl, hc4⟩) (qa_Bu hbl (by omega)) (qa_Bu hbh (by omega))
          exact ⟨C, bl', bh', hC, hl, hh, fun post h => br_f h0 ⟨hi, br_f g (br_t x0 (br_f z ⟨h4, nm_e (nm_r (nI_1 c) ⟨hi, br_f g ⟨by rw [em]; exact h4, nm_r (by rw [em]) ⟨hi, nm_e (nm_e (hX post h))⟩⟩⟩)⟩))⟩, fun post h => br_f h0 ⟨hi, br_f g (br_t y0 (br_f z ⟨h4, nm_e ⟨h4, nm_e (nm_e (hY post h))⟩⟩))⟩⟩
      · have h4 : vp_in (nI n) 4 := vp_in_nI hn (by omega)
        have em : nI (n + 1) - 1 = nI n := nI_pred n
        obtain ⟨C, bl', bh', hC, hl, hh, hX, hY⟩ := ih (n + 1) n (go (nI p).toNatClampNeg) yi (upd bl (nI n).toNatClampNeg (nI p)) bh (by omega) (Or.inr ⟨g, y0, rfl, hn⟩) (qa_Bu hbl (by omega)) hbh
        exact ⟨C, bl', bh', hC, hl, hh, fun post h => br_f h0 ⟨hi, br_f g (br_f x0 ⟨hi, br_f g ⟨by rw [em]; exact h4, nm_r (by rw [em]) ⟨hi, nm_e (nm_e (hX post h))⟩⟩⟩)⟩, fun post h => br_f h0 ⟨hi, br_f g (br_f y0 ⟨h4, nm_e (nm_e (hY post h))⟩)⟩⟩
theorem qs_rgM (hgo : qa_B go 1) (hbl : qa_B bl 63) (hbh : qa_B bh 63) : ∃ C bl' bh', C ≤ 4 ∧ qa_B bl' 63 ∧ qa_B bh' 63 ∧ (∀ post : SX → Prop, post (sw, cw, mp, ld, nx, lg, nw, ls, sp, nI C, vi, dc, ak, wr, hg, sb, mk, kx, st, ss, fo, fl, cb, cf, co, rh, ax, go, bl', bh', dp, an, xl, xh, xc) → wpX_buildRanges post (sw, cw, mp, ld, nx, lg, nw, ls, sp, bc, vi, dc, ak, wr, hg, sb, mk, kx, st, ss, fo, fl, cb, cf, co, rh, ax, go, bl, bh, dp, an, xl, xh, xc)) ∧ (∀ post : Int32 → SY → Prop, wY_sendAck_199 post (nI C) sw cw mp ld kc nx lg nw ls sp ac vi bc dc ak sb mk wr hg ky st ss fo fl cb cf co rh ay go bl' bh' dp an yl yh ya yc → ∃ n, wY_sendAck_113 post sw cw mp ld kc nx lg nw ls sp ac vi bc dc ak n 0 0 63 sb mk wr hg ky st ss fo fl cb cf co rh ay go bl bh dp an yl yh ya yc) := by
  obtain ⟨C, bl', bh', hC, hl, hh, hX, hY⟩ := qs_rg (sw := sw) (cw := cw) (mp := mp) (ld := ld) (nx := nx) (lg := lg) (nw := nw) (ls := ls) (sp := sp) (bc := bc) (vi := vi) (dc := dc) (ak := ak) (wr := wr) (hg := hg) (sb := sb) (mk := mk) (kx := kx) (st := st) (ss := ss) (fo := fo) (fl := fl) (cb := cb) (cf := cf) (co := co) (rh := rh) (ax := ax) (go := go) (dp := dp) (an := an) (xl := xl) (xh := xh) (xc := xc) (kc := kc) (ac := ac) (ky := ky) (ay := ay) (yl := yl) (yh := yh) (ya := ya) (yc := yc) hgo 64 0 0 0 0 bl bh (by omega) (Or.inl ⟨rfl, rfl, rfl, by omega⟩) hbl hbh
  rw [pk_m1 63] at hX hY
  exact ⟨C, bl', bh', hC, hl, hh, fun post h => ⟨65, hX post h⟩, fun post h => ⟨65, hY post h⟩⟩
/-! put into the channel -/
theorem qs_e {d s : Nat → Int32} {p n : Nat} {x y : Int32} (hx : x = nI (p + n)) (hy : y = nI n) (h : p + n < 2 ^ 31) : upd (qa_cp d s p n) x.toNatClampNeg (s y.toNatClampNeg) = qa_cp d s p (n + 1) := by
  subst hx hy
  rw [nI_clamp h, nI_clamp (by omega)]
  exact qa_cps
theorem qs_p2 {A : Nat} (hA : A < 8) {post : SX → Prop} (h : post (sw, cw, mp, ld, nx, lg, nw, ls, sp, bc, vi, dc, nI (A + 1), wr, hg, sb, mk, kx, st, ss, fo, fl, cb, cf, co, rh, ax, go, bl, bh, dp, an, xl, xh, qa_cp xc ax (A * 5) 5)) : ∀ d k : Nat, k + d = 5 → wX_putAck_69 post sw cw mp ld nx lg nw ls sp bc vi dc (nI A) (d + 1) (nI k) wr hg sb mk kx st ss fo fl cb cf co rh ax go bl bh dp an xl xh (qa_cp xc ax (A * 5) k) := by
  intro d
  induction d with
  | zero =>
    intro k hk
    obtain rfl : k = 5 := by omega
    exact br_t (nI_le (a := 5) (by omega) (by omega)) (nm_r (nI_1 A) h)
  | succ d ih =>
    intro k hk
    have e1 : nI A * 5 + nI k = nI (A * 5 + k) := by rw [qa_m_5, nI_add]
    exact br_f (nI_ge (b := 5) (by omega) (by omega)) ⟨vp_in_nI (by omega) (by omega), pk_in (A * 5 + k) 40 (by omega) e1, nm_r (qs_e e1 rfl (by omega)) (nm_r (nI_1 k) (ih (k + 1) (by omega)))⟩
theorem qs_p1 {A C : Nat} (hA : A < 8) (hC : C ≤ 4) {post : SX → Prop} (h : post (sw, cw, mp, ld, nx, lg, nw, ls, sp, nI C, vi, dc, nI (A + 1), wr, hg, sb, mk, kx, st, ss, fo, fl, cb, cf, co, rh, ax, go, bl, bh, dp, an, qa_cp xl bl (A * 4) C, qa_cp xh bh (A * 4) C, qa_cp xc ax (A * 5) 5)) : ∀ d k : Nat, k + d = C → wX_putAck_15 post sw cw mp ld nx lg nw ls sp (nI C) vi dc (nI A) (d + 1) (nI k) wr hg sb mk kx st ss fo fl cb cf co rh ax go bl bh dp an (qa_cp xl bl (A * 4) k) (qa_cp xh bh (A * 4) k) xc := by
  intro d
  induction d with
  | zero =>
    intro k hk
    obtain rfl : k = C := by omega
    have := qs_p2 hA h 5 0 rfl
    rw [qa_cp0] at this
    exact br_t (nI_le (by omega) (by omega)) ⟨6, this⟩
  | succ d ih =>
    intro k hk
    have e1 : nI A * 4 + nI k = nI (A * 4 + k) := by rw [qa_m_4, nI_add]
    have h4 : vp_in (nI k) 4 := vp_in_nI (by omega) (by omega)
    have h32 : vp_in (nI A * 4 + nI k) 32 := pk_in (A * 4 + k) 32 (by omega) e1
    exact br_f (nI_ge (by omega) (by omega)) ⟨h4, h32, nm_r (qs_e e1 rfl (by omega)) ⟨h4, h32, nm_r (qs_e e1 rfl (by omega)) (nm_r (nI_1 k) (ih (k + 1) (by omega)))⟩⟩
theorem qs_p {A C : Nat} (hA : A < 8) (hC : C ≤ 4) {post : SX → Prop} (h : post (sw, cw, mp, ld, nx, lg, nw, ls, sp, nI C, vi, dc, nI (A + 1), wr, hg, sb, mk, kx, st, ss, fo, fl, cb, cf, co, rh, ax, go, bl, bh, dp, upd an A (nI C), qa_cp xl bl (A * 4) C, qa_cp xh bh (A * 4) C, qa_cp xc ax (A * 5) 5)) : wpX_putAck post (sw, cw, mp, ld, nx, lg, nw, ls, sp, nI C, vi, dc, nI A, wr, hg, sb, mk, kx, st, ss, fo, fl, cb, cf, co, rh, ax, go, bl, bh, dp, an, xl, xh, xc) := by
  have := qs_p1 hA hC h C 0 (by omega)
  rw [qa_cp0, qa_cp0] at this
  exact ⟨vp_in_nI hA (by omega), nm_r (by rw [nI_clamp (by omega)]) ⟨C + 1, this⟩⟩
theorem qs_q1 {A : Nat} (hA : A < 8) {x : Int32} {post : Int32 → SY → Prop} (h : post x (sw, cw, mp, ld, kc, nx, lg, nw, ls, sp, ac, vi, bc, dc, nI (A + 1), sb, mk, wr, hg, ky, st, ss, fo, fl, cb, cf, co, rh, ay, go, bl, bh, dp, an, qa_cp yl bl (A * 4) 4, qa_cp yh bh (A * 4) 4, qa_cp ya ay (A * 4) 4, yc)) : ∀ d k : Nat, k + d = 4 → wY_sendAck_232 post x (nI A) sw cw mp ld kc nx lg nw ls sp ac vi bc dc (nI A) (d + 1) (nI k) sb mk wr hg ky st ss fo fl cb cf co rh ay go bl bh dp an (qa_cp yl bl (A * 4) k) (qa_cp yh bh (A * 4) k) (qa_cp ya ay (A * 4) k) yc := by
  intro d
  induction d with
  | zero =>
    intro k hk
    obtain rfl : k = 4 := by omega
    exact br_t (qm_g4 (by omega) (by omega)) (nm_r (nI_1 A) h)
  | succ d ih =>
    intro k hk
    have e1 : nI A * 4 + nI k = nI (A * 4 + k) := by rw [qa_m_4, nI_add]
    have h4 : vp_in (nI k) 4 := vp_in_nI (by omega) (by omega)
    have h32 : vp_in (nI A * 4 + nI k) 32 := pk_in (A * 4 + k) 32 (by omega) e1
    exact br_f (qm_l4 (by omega)) ⟨h4, h32, nm_r (qs_e e1 rfl (by omega)) ⟨h4, h32, nm_r (qs_e e1 rfl (by omega)) ⟨h4, h32, nm_r (qs_e e1 rfl (by omega)) (nm_r (nI_1 k) (ih (k + 1) (by omega)))⟩⟩⟩
theorem qs_q {A : Nat} (hA : A < 8) {x : Int32} {post : Int32 → SY → Prop} (h : post x (sw, cw, mp, ld, kc, nx, lg, nw, ls, sp, ac, vi, x, dc, nI (A + 1), sb, mk, wr, hg, ky, st, ss, fo, fl, cb, cf, co, rh, ay, go, bl, bh, dp, upd an A x, qa_cp yl bl (A * 4) 4, qa_cp yh bh (A * 4) 4, qa_cp ya ay (A * 4) 4, upd yc A ac)) : wY_sendAck_199 post x sw cw mp ld kc nx lg nw ls sp ac vi bc dc (nI A) sb mk wr hg ky st ss fo fl cb cf co rh ay go bl bh dp an yl yh ya yc := by
  have := qs_q1 hA h 4 0 (by omega)
  rw [qa_cp0, qa_cp0, qa_cp0] at this
  have h8 : vp_in (nI A) 8 := vp_in_nI hA (by omega)
  exact ⟨h8, nm_r (by rw [nI_clamp (by omega)]) ⟨h8, nm_r (by rw [nI_clamp (by omega)]) ⟨5, this⟩⟩⟩

theorem i_vc_sendAck {k : Nat} {u : SX} {v : SY} (I : i_Rel k u v) (hk : k + 3 ≤ 1540) : wpX_sendAck (fun r u' => wpY_sendAck (fun r' v' => r' = r ∧ i_Rel (k + 3) u' v') v) u := by
  obtain ⟨M, N, C, D, A, sw, cw, ld, lg, nw, ls, sp, vi, kc, ac, wr, hg, sb, mk, kx, st, ss, fo, fl, cb, cf, co, rh, ax, go, bl, bh, dp, an, xl, xh, xc, ky, ay, yl, yh, ya, yc, rfl, rfl, hI⟩ := I
  obtain ⟨⟨hM1, hM8, hN, hC, hD, hA⟩, hlg, hwr, hco, hrh, hcf, hgo, hF, hdp, hbl, hbh, han, hxl, hxh, hkx, hax, hK, hR⟩ := id hI
  by_cases h8 : A = 8
  · subst h8
    exact br_t rfl (br_t rfl ⟨rfl, qr_mk hI⟩)
  · have hA' : A < 8 := by omega
    have hne : ¬ nI A = 8 := fun z => h8 ((qa_eq_8 (by omega)).mp z)
    have hax' := qr_Cup (g := (fun j => qa_mn 32 (co j + sw))) (z := (qa_mn 128 (qv_sm co + cw))) hax
    obtain ⟨C', bl', bh', hC', hbl', hbh', hX, hY⟩ := qs_rgM (sw := sw) (cw := cw) (mp := nI M) (ld := ld) (nx := nI N) (lg := lg) (nw := nw) (ls := ls) (sp := sp) (bc := nI C) (vi := vi) (dc := nI D) (ak := nI A) (wr := wr) (hg := hg) (sb := sb) (mk := mk) (kx := kx) (st := st) (ss := ss) (fo := fo) (fl := fl) (cb := cb) (cf := cf) (co := co) (rh := rh) (ax := upd (qa_up ax (fun j => qa_mn 32 (co j + sw)) 4) 4 (qa_mx (ax 4) (qa_mn 128 (qv_sm co + cw)))) (go := go) (bl := bl) (bh := bh) (dp := dp) (an := an) (xl := xl) (xh := xh) (xc := xc) (kc := kc) (ac := qa_mx ac (qa_mn 128 (qv_sm co + cw))) (ky := ky) (ay := qa_up ay (fun j => qa_mn 32 (co j + sw)) 4) (yl := yl) (yh := yh) (ya := ya) (yc := yc) hgo hbl hbh
    exact br_f hne (qs_xr (hX _ (qs_p hA' hC' (br_f hne (qs_yr (hY _ (qs_q hA' ⟨rfl, qr_mk ⟨⟨hM1, hM8, hN, hC', hD, hA'⟩, hlg, hwr, hco, hrh, hcf, hgo, hF, hdp, hbl', hbh', qa_Bu han hC', qa_Bcp hxl hbl', qa_Bcp hxh hbh', hkx, hax', qr_Kcp hK hax', qr_Rcp hR hC'⟩⟩)))))))
end QS
