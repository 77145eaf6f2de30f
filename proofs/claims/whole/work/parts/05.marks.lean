section QM
variable {sw cw mp ld nx lg nw ls sp bc vi dc ak kc ac : Int32} {wr hg sb mk kx st ss fo fl cb cf co rh ax go bl bh dp an xl xh xc ky ay yl yh ya yc : Nat → Int32}
abbrev qt_A : Type := (Nat → Int32) → (Nat → Int32) → (Nat → Int32) → (Nat → Int32) → (Nat → Int32) → (Nat → Int32) → (Nat → Int32) → (Nat → Int32) → (Nat → Int32) → (Nat → Int32) → (Nat → Int32) → (Nat → Int32) → (Nat → Int32) → (Nat → Int32) → (Nat → Int32) → (Nat → Int32) → (Nat → Int32) → (Nat → Int32) → (Nat → Int32) → (Nat → Int32) → (Nat → Int32) → (Nat → Int32) → Prop
abbrev qt_B : Type := (Nat → Int32) → (Nat → Int32) → (Nat → Int32) → (Nat → Int32) → (Nat → Int32) → (Nat → Int32) → (Nat → Int32) → (Nat → Int32) → (Nat → Int32) → (Nat → Int32) → (Nat → Int32) → (Nat → Int32) → (Nat → Int32) → (Nat → Int32) → (Nat → Int32) → (Nat → Int32) → (Nat → Int32) → (Nat → Int32) → (Nat → Int32) → (Nat → Int32) → (Nat → Int32) → (Nat → Int32) → (Nat → Int32) → Prop
abbrev qt_X : Type := Int32 → Int32 → Int32 → Int32 → Int32 → Int32 → Int32 → Int32 → Int32 → Int32 → Int32 → Int32 → Int32 → Int32 → (Nat → Int32) → (Nat → Int32) → (Nat → Int32) → (Nat → Int32) → (Nat → Int32) → (Nat → Int32) → (Nat → Int32) → (Nat → Int32) → (Nat → Int32) → (Nat → Int32) → (Nat → Int32) → (Nat → Int32) → (Nat → Int32) → (Nat → Int32) → (Nat → Int32) → (Nat → Int32) → (Nat → Int32) → (Nat → Int32) → (Nat → Int32) → (Nat → Int32) → (Nat → Int32) → (Nat → Int32) → Prop
abbrev qt_Y : Type := Int32 → Int32 → Int32 → Int32 → Int32 → Int32 → Int32 → Int32 → Int32 → Int32 → Int32 → Int32 → Int32 → Int32 → Int32 → Int32 → (Nat → Int32) → (Nat → Int32) → (Nat → Int32) → (Nat → Int32) → (Nat → Int32) → (Nat → Int32) → (Nat → Int32) → (Nat → Int32) → (Nat → Int32) → (Nat → Int32) → (Nat → Int32) → (Nat → Int32) → (Nat → Int32) → (Nat → Int32) → (Nat → Int32) → (Nat → Int32) → (Nat → Int32) → (Nat → Int32) → (Nat → Int32) → (Nat → Int32) → (Nat → Int32) → (Nat → Int32) → (Nat → Int32) → Prop
theorem qm_l4 {s : Nat} (h : s < 4) : ¬ 4 ≤ nI s := nI_ge (b := 4) h (by omega)
theorem qm_g4 {s : Nat} (h : 4 ≤ s) (h2 : s < 2 ^ 31) : 4 ≤ nI s := nI_le (a := 4) h h2
/-! the marks of a frame: acknowledged -/
theorem qm_a1 {s o l : Nat} (hs : s < 4) (hol : o + l ≤ 32) {x1 : Int32} : ∀ (d i : Nat) (mk : Nat → Int32), i + d = l → ∃ mk', (∀ (post : SX → Prop) (J : Int32 → qt_A), J (nI (s + 1)) wr hg sb mk' kx st ss fo fl cb cf co rh ax go bl bh dp an xl xh xc → wX_acknowledge_83 post J x1 (nI s) (nI (o + l)) sw cw mp ld nx lg nw ls sp bc vi dc ak (d + 1) (nI (o + i)) wr hg sb mk kx st ss fo fl cb cf co rh ax go bl bh dp an xl xh xc) ∧ (∀ (post : SY → Prop) (J : Int32 → qt_B), J (nI (s + 1)) sb mk' wr hg ky st ss fo fl cb cf co rh ay go bl bh dp an yl yh ya yc → wY_markFrames_38 post J x1 0 3 (nI s) (nI o) (nI l) sw cw mp ld kc nx lg nw ls sp ac vi bc dc ak (d + 1) (nI i) sb mk wr hg ky st ss fo fl cb cf co rh ay go bl bh dp an yl yh ya yc) := by
  intro d
  induction d with
  | zero =>
    intro i mk hi
    have h1 : nI (o + l) ≤ nI (o + i) := nI_le (by omega) (by omega)
    have h2 : nI l ≤ nI i := nI_le (by omega) (by omega)
    exact ⟨mk, fun post J h => br_t h1 (nm_r (nI_1 s) h), fun post J h => br_t h2 (nm_r (nI_1 s) h)⟩
  | succ d ih =>
    intro i mk hi
    have h1 : ¬ nI (o + l) ≤ nI (o + i) := nI_ge (by omega) (by omega)
    have h2 : ¬ nI l ≤ nI i := nI_ge (by omega) (by omega)
    have hx : vp_in (nI s * 32 + nI (o + i)) 128 := ql_ix32 hs (by omega)
    have h0 : ¬ nI (o + i) < 0 := nI_pos (by omega)
    have h32 : ¬ 32 ≤ nI (o + i) := nI_ge (b := 32) (by omega) (by omega)
    obtain ⟨mk', hX, hY⟩ := ih (i + 1) (upd mk (nI s * 32 + nI (o + i)).toNatClampNeg 3) (by omega)
    exact ⟨mk', fun post J h => br_f h1 ⟨hx, nm_e (nm_r (nI_1 (o + i)) (hX post J h))⟩, fun post J h => br_f h2 (nm_r (nI_add o i) (br_f h0 (br_f h32 (br_t rfl ⟨hx, nm_e (nm_r (nI_1 i) (hY post J h))⟩))))⟩
theorem qm_a2 {p : Nat} (hp : p < 64) (hF : qr_F fo fl) : ∀ (d s : Nat) (mk : Nat → Int32), s + d = 4 → ∃ mk', (∀ post : SX → Prop, post (sw, cw, mp, ld, nx, lg, nw, ls, sp, bc, vi, dc, ak, wr, hg, sb, mk', kx, st, ss, fo, fl, cb, cf, co, rh, ax, go, bl, bh, dp, an, xl, xh, xc) → wX_acknowledge_50 post (nI p) sw cw mp ld nx lg nw ls sp bc vi dc ak (d + 1) (nI s) wr hg sb mk kx st ss fo fl cb cf co rh ax go bl bh dp an xl xh xc) ∧ (∀ post : SY → Prop, post (sw, cw, mp, ld, kc, nx, lg, nw, ls, sp, ac, vi, bc, dc, ak, sb, mk', wr, hg, ky, st, ss, fo, fl, cb, cf, co, rh, ay, go, bl, bh, dp, an, yl, yh, ya, yc) → wY_markFrames_3 post (nI p) 0 3 sw cw mp ld kc nx lg nw ls sp ac vi bc dc ak (d + 1) (nI s) sb mk wr hg ky st ss fo fl cb cf co rh ay go bl bh dp an yl yh ya yc) := by
  intro d
  induction d with
  | zero =>
    intro s mk hs
    have h := qm_g4 (s := s) (by omega) (by omega)
    exact ⟨mk, fun post hp => br_t h hp, fun post hp => br_t h hp⟩
  | succ d ih =>
    intro s mk hs
    have h := qm_l4 (s := s) (by omega)
    have h6 : vp_in (nI p * 4 + nI s) 256 := ql_ix4 (by omega) hp
    obtain ⟨o, l, eo, el, hol⟩ := hF (nI p * 4 + nI s).toNatClampNeg
    have ee : nI o + fl (nI p * 4 + nI s).toNatClampNeg = nI (o + l) := by rw [el, nI_add]
    obtain ⟨m1, hX1, hY1⟩ := qm_a1 (sw := sw) (cw := cw) (mp := mp) (ld := ld) (nx := nx) (lg := lg) (nw := nw) (ls := ls) (sp := sp) (bc := bc) (vi := vi) (dc := dc) (ak := ak) (wr := wr) (hg := hg) (sb := sb) (kx := kx) (st := st) (ss := ss) (fo := fo) (fl := fl) (cb := cb) (cf := cf) (co := co) (rh := rh) (ax := ax) (go := go) (bl := bl) (bh := bh) (dp := dp) (an := an) (xl := xl) (xh := xh) (xc := xc) (kc := kc) (ac := ac) (ky := ky) (ay := ay) (yl := yl) (yh := yh) (ya := ya) (yc := yc) (s := s) (by omega) hol (x1 := nI p) l 0 mk (by omega)
    obtain ⟨m2, hX2, hY2⟩ := ih (s + 1) m1 (by omega)
    exact ⟨m2, fun post hp => br_f h ⟨h6, nm_r eo ⟨h6, nm_r ee ⟨l + 1, hX1 _ _ (hX2 post hp)⟩⟩⟩, fun post hp => br_f h ⟨h6, nm_r eo ⟨h6, nm_r el ⟨l + 1, hY1 _ _ (hY2 post hp)⟩⟩⟩⟩
/-! .. and lost -/
theorem qm_20 : ¬ (2 : Int32) = 0 := by decide
theorem qm_d1 {s o l : Nat} (hs : s < 4) (hol : o + l ≤ 32) {x1 : Int32} : ∀ (d i : Nat) (mk : Nat → Int32), i + d = l → ∃ mk', (∀ (post : SX → Prop) (J : Int32 → qt_A), J (nI (s + 1)) wr hg sb mk' kx st ss fo fl cb cf co rh ax go bl bh dp an xl xh xc → wX_declareLost_52 post J x1 (nI s) (nI (o + l)) sw cw mp ld nx lg nw ls sp bc vi dc ak (d + 1) (nI (o + i)) wr hg sb mk kx st ss fo fl cb cf co rh ax go bl bh dp an xl xh xc) ∧ (∀ (post : SY → Prop) (J : Int32 → qt_B), J (nI (s + 1)) sb mk' wr hg ky st ss fo fl cb cf co rh ay go bl bh dp an yl yh ya yc → wY_markFrames_38 post J x1 2 1 (nI s) (nI o) (nI l) sw cw mp ld kc nx lg nw ls sp ac vi bc dc ak (d + 1) (nI i) sb mk wr hg ky st ss fo fl cb cf co rh ay go bl bh dp an yl yh ya yc) := by
  intro d
  induction d with
  | zero =>
    intro i mk hi
    have h1 : nI (o + l) ≤ nI (o + i) := nI_le (by omega) (by omega)
    have h2 : nI l ≤ nI i := nI_le (by omega) (by omega)
    exact ⟨mk, fun post J h => br_t h1 (nm_r (nI_1 s) h), fun post J h => br_t h2 (nm_r (nI_1 s) h)⟩
  | succ d ih =>
    intro i mk hi
    have h1 : ¬ nI (o + l) ≤ nI (o + i) := nI_ge (by omega) (by omega)
    have h2 : ¬ nI l ≤ nI i := nI_ge (by omega) (by omega)
    have hx : vp_in (nI s * 32 + nI (o + i)) 128 := ql_ix32 hs (by omega)
    have h0 : ¬ nI (o + i) < 0 := nI_pos (by omega)
    have h32 : ¬ 32 ≤ nI (o + i) := nI_ge (b := 32) (by omega) (by omega)
    by_cases z : mk (nI s * 32 + nI (o + i)).toNatClampNeg = 2
    · obtain ⟨mk', hX, hY⟩ := ih (i + 1) (upd mk (nI s * 32 + nI (o + i)).toNatClampNeg 1) (by omega)
      exact ⟨mk', fun post J h => br_f h1 ⟨hx, br_t z ⟨hx, nm_e (nm_r (nI_1 (o + i)) (hX post J h))⟩⟩, fun post J h => br_f h2 (nm_r (nI_add o i) (br_f h0 (br_f h32 (br_f qm_20 ⟨hx, br_t z ⟨hx, nm_e (nm_r (nI_1 i) (hY post J h))⟩⟩))))⟩
    · obtain ⟨mk', hX, hY⟩ := ih (i + 1) mk (by omega)
      exact ⟨mk', fun post J h => br_f h1 ⟨hx, br_f z (nm_r (nI_1 (o + i)) (hX post J h))⟩, fun post J h => br_f h2 (nm_r (nI_add o i) (br_f h0 (br_f h32 (br_f qm_20 ⟨hx, br_f z (nm_r (nI_1 i) (hY post J h))⟩))))⟩
theorem qm_d2 {p : Nat} (hp : p < 64) (hF : qr_F fo fl) : ∀ (d s : Nat) (mk : Nat → Int32), s + d = 4 → ∃ mk', (∀ post : SX → Prop, post (sw, cw, mp, ld, nx, lg, nw, ls, sp, bc, vi, dc, ak, wr, hg, sb, mk', kx, st, ss, fo, fl, cb, cf, co, rh, ax, go, bl, bh, dp, an, xl, xh, xc) → wX_declareLost_19 post (nI p) sw cw mp ld nx lg nw ls sp bc vi dc ak (d + 1) (nI s) wr hg sb mk kx st ss fo fl cb cf co rh ax go bl bh dp an xl xh xc) ∧ (∀ post : SY → Prop, post (sw, cw, mp, ld, kc, nx, lg, nw, ls, sp, ac, vi, bc, dc, ak, sb, mk', wr, hg, ky, st, ss, fo, fl, cb, cf, co, rh, ay, go, bl, bh, dp, an, yl, yh, ya, yc) → wY_markFrames_3 post (nI p) 2 1 sw cw mp ld kc nx lg nw ls sp ac vi bc dc ak (d + 1) (nI s) sb mk wr hg ky st ss fo fl cb cf co rh ay go bl bh dp an yl yh ya yc) := by
  intro d
  induction d with
  | zero =>
    intro s mk hs
    have h := qm_g4 (s := s) (by omega) (by omega)
    exact ⟨mk, fun post hp => br_t h hp, fun post hp => br_t h hp⟩
  | succ d ih =>
    intro s mk hs
    have h := qm_l4 (s := s) (by omega)
    have h6 : vp_in (nI p * 4 + nI s) 256 := ql_ix4 (by omega) hp
    obtain ⟨o, l, eo, el, hol⟩ := hF (nI p * 4 + nI s).toNatClampNeg
    have ee : nI o + fl (nI p * 4 + nI s).toNatClampNeg = nI (o + l) := by rw [el, nI_add]
    obtain ⟨m1, hX1, hY1⟩ := qm_d1 (sw := sw) (cw := cw) (mp := mp) (ld := ld) (nx := nx) (lg := lg) (nw := nw) (ls := ls) (sp := sp) (bc := bc) (vi := vi) (dc := dc) (ak := ak) (wr := wr) (hg := hg) (sb := sb) (kx := kx) (st := st) (ss := ss) (fo := fo) (fl := fl) (cb := cb) (cf := cf) (co := co) (rh := rh) (ax := ax) (go := go) (bl := bl) (bh := bh) (dp := dp) (an := an) (xl := xl) (xh := xh) (xc := xc) (kc := kc) (ac := ac) (ky := ky) (ay := ay) (yl := yl) (yh := yh) (ya := ya) (yc := yc) (s := s) (by omega) hol (x1 := nI p) l 0 mk (by omega)
    obtain ⟨m2, hX2, hY2⟩ := ih (s + 1) m1 (by omega)
    exact ⟨m2, fun post hp => br_f h ⟨h6, nm_r eo ⟨h6, nm_r ee ⟨l + 1, hX1 _ _ (hX2 post hp)⟩⟩⟩, fun post hp => br_f h ⟨h6, nm_r eo ⟨h6, nm_r el ⟨l + 1, hY1 _ _ (hY2 post hp)⟩⟩⟩⟩
/-! loss detection -/
theorem qm_dl {L : Nat} (hL : L ≤ 63) (hF : qr_F fo fl) : ∀ (d p : Nat) (ss mk : Nat → Int32) (ls : Int32), p + d = L → ∃ ss' mk' ls', (∀ post : SX → Prop, post (sw, cw, mp, ld, nx, nI L, nw, ls', sp, bc, vi, dc, ak, wr, hg, sb, mk', kx, st, ss', fo, fl, cb, cf, co, rh, ax, go, bl, bh, dp, an, xl, xh, xc) → wX_detectLoss_2 post (d + 1) (nI p) sw cw mp ld nx (nI L) nw ls sp bc vi dc ak wr hg sb mk kx st ss fo fl cb cf co rh ax go bl bh dp an xl xh xc) ∧ (∀ post : SY → Prop, post (sw, cw, mp, ld, kc, nx, nI L, nw, ls', sp, ac, vi, bc, dc, ak, sb, mk', wr, hg, ky, st, ss', fo, fl, cb, cf, co, rh, ay, go, bl, bh, dp, an, yl, yh, ya, yc) → wY_detect_10 post (d + 1) (nI p) sw cw mp ld kc nx (nI L) nw ls sp ac vi bc dc ak sb mk wr hg ky st ss fo fl cb cf co rh ay go bl bh dp an yl yh ya yc) := by
  intro d
  induction d with
  | zero =>
    intro p ss mk ls hp
    have h : nI L ≤ nI p := nI_le (by omega) (by omega)
    exact ⟨ss, mk, ls, fun post hp => br_t h hp, fun post hp => br_t h hp⟩
  | succ d ih =>
    intro p ss mk ls hp
    have h : ¬ nI L ≤ nI p := nI_ge (by omega) (by omega)
    have h64 : ¬ 64 ≤ nI p := nI_ge (b := 64) (by omega) (by omega)
    have hi : vp_in (nI p) 64 := vp_in_nI (by omega) (by omega)
    by_cases Z : ss (nI p).toNatClampNeg = 1
    · obtain ⟨m1, hX1, hY1⟩ := qm_d2 (sw := sw) (cw := cw) (mp := mp) (ld := ld) (nx := nx) (lg := nI L) (nw := nw) (ls := ls + 1) (sp := sp) (bc := bc) (vi := vi) (dc := dc) (ak := ak) (wr := wr) (hg := hg) (sb := sb) (kx := kx) (st := st) (ss := upd ss (nI p).toNatClampNeg 3) (fo := fo) (fl := fl) (cb := cb) (cf := cf) (co := co) (rh := rh) (ax := ax) (go := go) (bl := bl) (bh := bh) (dp := dp) (an := an) (xl := xl) (xh := xh) (xc := xc) (kc := kc) (ac := ac) (ky := ky) (ay := ay) (yl := yl) (yh := yh) (ya := ya) (yc := yc) (p := p) (by omega) hF 4 0 mk rfl
      obtain ⟨s2, m2, l2, hX2, hY2⟩ := ih (p + 1) (upd ss (nI p).toNatClampNeg 3) m1 (ls + 1) (by omega)
      by_cases a : 3 ≤ nI L - nI p
      · exact ⟨s2, m2, l2, fun post hp => br_f h (br_t a ⟨hi, br_t Z (br_f qa_10 ⟨hi, nm_e (nm_e ⟨5, hX1 _ (nm_r (nI_1 p) (hX2 post hp))⟩)⟩)⟩), fun post hp => br_f h (br_f h64 ⟨hi, br_t Z (br_t a ⟨hi, nm_e (nm_e ⟨5, hY1 _ (nm_r (nI_1 p) (hY2 post hp))⟩)⟩)⟩)⟩
      · by_cases b : nw - st (nI p).toNatClampNeg < ld
        · obtain ⟨s2, m2, l2, hX2, hY2⟩ := ih (p + 1) ss mk ls (by omega)
          exact ⟨s2, m2, l2, fun post hp => br_f h (br_f a ⟨hi, br_t b ⟨hi, br_t Z (br_t rfl (nm_r (nI_1 p) (hX2 post hp)))⟩⟩), fun post hp => br_f h (br_f h64 ⟨hi, br_t Z (br_f a ⟨hi, br_t b (nm_r (nI_1 p) (hY2 post hp))⟩)⟩)⟩
        · exact ⟨s2, m2, l2, fun post hp => br_f h (br_f a ⟨hi, br_f b ⟨hi, br_t Z (br_f qa_10 ⟨hi, nm_e (nm_e ⟨5, hX1 _ (nm_r (nI_1 p) (hX2 post hp))⟩)⟩)⟩⟩), fun post hp => br_f h (br_f h64 ⟨hi, br_t Z (br_f a ⟨hi, br_f b ⟨hi, nm_e (nm_e ⟨5, hY1 _ (nm_r (nI_1 p) (hY2 post hp))⟩)⟩⟩)⟩)⟩
    · obtain ⟨s2, m2, l2, hX2, hY2⟩ := ih (p + 1) ss mk ls (by omega)
      refine ⟨s2, m2, l2, fun post hp => ?_, fun post hp => br_f h (br_f h64 ⟨hi, br_f Z (nm_r (nI_1 p) (hY2 post hp))⟩)⟩
      by_cases a : 3 ≤ nI L - nI p
      · exact br_f h (br_t a ⟨hi, br_f Z (nm_r (nI_1 p) (hX2 post hp))⟩)
      · by_cases b : nw - st (nI p).toNatClampNeg < ld
        · exact br_f h (br_f a ⟨hi, br_t b ⟨hi, br_f Z (nm_r (nI_1 p) (hX2 post hp))⟩⟩)
        · exact br_f h (br_f a ⟨hi, br_f b ⟨hi, br_f Z (nm_r (nI_1 p) (hX2 post hp))⟩⟩)
theorem qm_det (hlg : lg = -1 ∨ ∃ L, L ≤ 63 ∧ lg = nI L) (hF : qr_F fo fl) : ∃ ss' mk' ls', (∀ post : SX → Prop, post (sw, cw, mp, ld, nx, lg, nw, ls', sp, bc, vi, dc, ak, wr, hg, sb, mk', kx, st, ss', fo, fl, cb, cf, co, rh, ax, go, bl, bh, dp, an, xl, xh, xc) → wpX_detectLoss post (sw, cw, mp, ld, nx, lg, nw, ls, sp, bc, vi, dc, ak, wr, hg, sb, mk, kx, st, ss, fo, fl, cb, cf, co, rh, ax, go, bl, bh, dp, an, xl, xh, xc)) ∧ (∀ post : SY → Prop, post (sw, cw, mp, ld, kc, nx, lg, nw, ls', sp, ac, vi, bc, dc, ak, sb, mk', wr, hg, ky, st, ss', fo, fl, cb, cf, co, rh, ay, go, bl, bh, dp, an, yl, yh, ya, yc) → wpY_detect post (sw, cw, mp, ld, kc, nx, lg, nw, ls, sp, ac, vi, bc, dc, ak, sb, mk, wr, hg, ky, st, ss, fo, fl, cb, cf, co, rh, ay, go, bl, bh, dp, an, yl, yh, ya, yc)) := by
  rcases hlg with rfl | ⟨L, hL, rfl⟩
  · exact ⟨ss, mk, ls, fun post hp => ⟨1, br_t (by decide) hp⟩, fun post hp => br_f (by decide) hp⟩
  · obtain ⟨s2, m2, l2, hX, hY⟩ := qm_dl (sw := sw) (cw := cw) (mp := mp) (ld := ld) (nx := nx) (nw := nw) (sp := sp) (bc := bc) (vi := vi) (dc := dc) (ak := ak) (wr := wr) (hg := hg) (sb := sb) (kx := kx) (st := st) (fo := fo) (fl := fl) (cb := cb) (cf := cf) (co := co) (rh := rh) (ax := ax) (go := go) (bl := bl) (bh := bh) (dp := dp) (an := an) (xl := xl) (xh := xh) (xc := xc) (kc := kc) (ac := ac) (ky := ky) (ay := ay) (yl := yl) (yh := yh) (ya := ya) (yc := yc) hL hF L 0 ss mk ls (by omega)
    exact ⟨s2, m2, l2, fun post hp => ⟨L + 1, hX post hp⟩, fun post hp => br_t (nI_pos' (by omega)) ⟨L + 1, hY post hp⟩⟩

theorem i_vc_tick {k : Nat} {u : SX} {v : SY} (I : i_Rel k u v) (hk : k + 3 ≤ 1540) (v1 : Int32) : wpX_tick (fun r u' => wpY_tick (fun r' v' => r' = r ∧ i_Rel (k + 3) u' v') v v1) u v1 := by
  obtain ⟨M, N, C, D, A, sw, cw, ld, lg, nw, ls, sp, vi, kc, ac, wr, hg, sb, mk, kx, st, ss, fo, fl, cb, cf, co, rh, ax, go, bl, bh, dp, an, xl, xh, xc, ky, ay, yl, yh, ya, yc, rfl, rfl, hI⟩ := I
  obtain ⟨⟨hM1, hM8, hN, hC, hD, hA⟩, hlg, hwr, hco, hrh, hcf, hgo, hF, hdp, hbl, hbh, han, hxl, hxh, hkx, hax, hK, hR⟩ := id hI
  by_cases h1 : v1 < 1
  · exact br_t h1 (br_t h1 ⟨rfl, qr_mk hI⟩)
  · by_cases h2 : v1 ≤ 1000
    · obtain ⟨s2, m2, l2, hX, hY⟩ := qm_det (sw := sw) (cw := cw) (mp := nI M) (ld := ld) (nx := nI N) (lg := lg) (nw := nw + v1) (ls := ls) (sp := sp) (bc := nI C) (vi := vi) (dc := nI D) (ak := nI A) (wr := wr) (hg := hg) (sb := sb) (mk := mk) (kx := kx) (st := st) (ss := ss) (fo := fo) (fl := fl) (cb := cb) (cf := cf) (co := co) (rh := rh) (ax := ax) (go := go) (bl := bl) (bh := bh) (dp := dp) (an := an) (xl := xl) (xh := xh) (xc := xc) (kc := kc) (ac := ac) (ky := ky) (ay := ay) (yl := yl) (yh := yh) (ya := ya) (yc := yc) hlg hF
      exact br_f h1 (br_t h2 (nm_e (hX _ (br_f h1 (br_t h2 (nm_e (hY _ ⟨rfl, qr_mk hI⟩)))))))
    · exact br_f h1 (br_f h2 (br_f h1 (br_f h2 ⟨rfl, qr_mk hI⟩)))
end QM
