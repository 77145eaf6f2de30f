section QK
variable {sw cw mp ld nx lg nw ls sp bc vi dc ak kc ac : Int32} {wr hg sb mk kx st ss fo fl cb cf co rh ax go bl bh dp an xl xh xc ky ay yl yh ya yc : Nat → Int32}
theorem qk_x {S R : Nat} (hS : S < 8) (eR : an (nI S).toNatClampNeg = nI R) {post : SX → Prop} (h : ∃ n, wX_acceptAck_47 post (nI S) (nI R) n 0 sw cw mp ld nx lg nw ls sp bc vi dc ak wr hg sb mk (qa_up kx (fun j => xc (S * 5 + j)) 5) st ss fo fl cb cf co rh ax go bl bh dp an xl xh xc) : ∀ d k : Nat, k + d = 5 → wX_acceptAck_2 post (nI S) sw cw mp ld nx lg nw ls sp bc vi dc ak (d + 1) (nI k) wr hg sb mk (qa_up kx (fun j => xc (S * 5 + j)) k) st ss fo fl cb cf co rh ax go bl bh dp an xl xh xc := by
  intro d
  have h8 : vp_in (nI S) 8 := vp_in_nI hS (by omega)
  induction d with
  | zero =>
    intro k hk
    obtain rfl : k = 5 := by omega
    exact br_t (nI_le (a := 5) (by omega) (by omega)) ⟨h8, nm_r eR h⟩
  | succ d ih =>
    intro k hk
    have h5 : vp_in (nI k) 5 := vp_in_nI (by omega) (by omega)
    have e1 : nI S * 5 + nI k = nI (S * 5 + k) := by rw [qa_m_5, nI_add]
    have e : upd (qa_up kx (fun j => xc (S * 5 + j)) k) (nI k).toNatClampNeg (qa_mx (qa_up kx (fun j => xc (S * 5 + j)) k (nI k).toNatClampNeg) (xc (nI S * 5 + nI k).toNatClampNeg)) = qa_up kx (fun j => xc (S * 5 + j)) (k + 1) := by
      rw [e1, nI_clamp (by omega), nI_clamp (by omega), qa_upn (Nat.le_refl k)]
      exact qa_ups (g := fun j => xc (S * 5 + j))
    exact br_f (nI_ge (b := 5) (by omega) (by omega)) ⟨h5, pk_in (S * 5 + k) 40 (by omega) e1, qv_gr ⟨h5, nm_r e (nm_r (nI_1 k) (ih (k + 1) (by omega)))⟩⟩
theorem qk_y {S R : Nat} (hS : S < 8) (eR : an (nI S).toNatClampNeg = nI R) {post : SY → Prop} (h : ∃ n, wY_ackAtSender_80 post (nI S) (nI R) n 0 sw cw mp ld (qa_mx kc (yc S)) nx lg nw ls sp ac vi bc dc ak sb mk wr hg (qa_up ky (fun j => ya (S * 4 + j)) 4) st ss fo fl cb cf co rh ay go bl bh dp an yl yh ya yc) : ∀ d k : Nat, k + d = 4 → wY_ackAtSender_2 post (nI S) sw cw mp ld kc nx lg nw ls sp ac vi bc dc ak (d + 1) (nI k) sb mk wr hg (qa_up ky (fun j => ya (S * 4 + j)) k) st ss fo fl cb cf co rh ay go bl bh dp an yl yh ya yc := by
  intro d
  have h8 : vp_in (nI S) 8 := vp_in_nI hS (by omega)
  induction d with
  | zero =>
    intro k hk
    obtain rfl : k = 4 := by omega
    refine br_t (nI_le (a := 4) (by omega) (by omega)) ⟨h8, ?_⟩
    rw [← nI_clamp (n := S) (by omega)] at h
    by_cases z : yc (nI S).toNatClampNeg ≤ kc
    · rw [qa_mx2 (Int32.not_lt.mpr z)] at h
      rw [nI_clamp (n := S) (by omega)] at h
      exact br_t z ⟨h8, nm_r eR h⟩
    · rw [qa_mx1 (Int32.not_le.mp z)] at h
      rw [nI_clamp (n := S) (by omega)] at h
      exact br_f z ⟨h8, nm_r (by rw [nI_clamp (by omega)]) ⟨h8, nm_r eR h⟩⟩
  | succ d ih =>
    intro k hk
    have h4 : vp_in (nI k) 4 := vp_in_nI (by omega) (by omega)
    have e1 : nI S * 4 + nI k = nI (S * 4 + k) := by rw [qa_m_4, nI_add]
    have h32 : vp_in (nI S * 4 + nI k) 32 := pk_in (S * 4 + k) 32 (by omega) e1
    have ev : qa_up ky (fun j => ya (S * 4 + j)) k (nI k).toNatClampNeg = ky k := by rw [nI_clamp (by omega), qa_upn (Nat.le_refl k)]
    have ew : ya (nI S * 4 + nI k).toNatClampNeg = ya (S * 4 + k) := by rw [e1, nI_clamp (by omega)]
    have I := ih (k + 1) (by omega)
    by_cases z : ya (nI S * 4 + nI k).toNatClampNeg ≤ qa_up ky (fun j => ya (S * 4 + j)) k (nI k).toNatClampNeg
    · have z2 := z
      rw [ev, ew] at z2
      rw [qa_upk (qa_mx2 (Int32.not_lt.mpr z2))] at I
      exact br_f (qm_l4 (by omega)) ⟨h32, h4, br_t z (nm_r (nI_1 k) I)⟩
    · have z2 := z
      rw [ev, ew] at z2
      have e : upd (qa_up ky (fun j => ya (S * 4 + j)) k) (nI k).toNatClampNeg (ya (nI S * 4 + nI k).toNatClampNeg) = qa_up ky (fun j => ya (S * 4 + j)) (k + 1) := by
        rw [ew, nI_clamp (by omega), ← qa_ups]
        rw [qa_mx1 (Int32.not_le.mp z2)]
      exact br_f (qm_l4 (by omega)) ⟨h32, h4, br_f z ⟨h32, h4, nm_r e (nm_r (nI_1 k) I)⟩⟩
/-- one packet acknowledged -/
theorem qk_a {h p n : Nat} (hh : h ≤ 63) (hp : p ≤ h) (hF : qr_F fo fl) : ∃ ss' mk' sp', (∀ post : SX → Prop, post (sw, cw, mp, ld, nx, lg, nw, ls, sp', bc, vi, dc, ak, wr, hg, sb, mk', kx, st, ss', fo, fl, cb, cf, co, rh, ax, go, bl, bh, dp, an, xl, xh, xc) → wpX_acknowledge post (sw, cw, mp, ld, nx, lg, nw, ls, sp, bc, vi, dc, ak, wr, hg, sb, mk, kx, st, ss, fo, fl, cb, cf, co, rh, ax, go, bl, bh, dp, an, xl, xh, xc) (nI p)) ∧ (∀ (post : SY → Prop) (J : qt_Y) (x1 x2 x3 : Int32), wY_ackAtSender_118 post J x1 x2 x3 (nI h) n (nI (p + 1)) sw cw mp ld kc nx lg nw ls sp' ac vi bc dc ak sb mk' wr hg ky st ss' fo fl cb cf co rh ay go bl bh dp an yl yh ya yc → wY_ackAtSender_118 post J x1 x2 x3 (nI h) (n + 1) (nI p) sw cw mp ld kc nx lg nw ls sp ac vi bc dc ak sb mk wr hg ky st ss fo fl cb cf co rh ay go bl bh dp an yl yh ya yc) := by
  have hi : vp_in (nI p) 64 := vp_in_nI (by omega) (by omega)
  have h1 : ¬ nI h < nI p := nI_nlt hp (by omega)
  have h64 : ¬ 64 ≤ nI p := nI_ge (b := 64) (by omega) (by omega)
  have h0 : 0 ≤ nI p := nI_pos' (by omega)
  by_cases Z1 : ss (nI p).toNatClampNeg = 1
  · have Z3 : ¬ ss (nI p).toNatClampNeg = 3 := by rw [Z1]; decide
    obtain ⟨m1, hX1, hY1⟩ := qm_a2 (sw := sw) (cw := cw) (mp := mp) (ld := ld) (nx := nx) (lg := lg) (nw := nw) (ls := ls) (sp := sp) (bc := bc) (vi := vi) (dc := dc) (ak := ak) (wr := wr) (hg := hg) (sb := sb) (kx := kx) (st := st) (ss := upd ss (nI p).toNatClampNeg 2) (fo := fo) (fl := fl) (cb := cb) (cf := cf) (co := co) (rh := rh) (ax := ax) (go := go) (bl := bl) (bh := bh) (dp := dp) (an := an) (xl := xl) (xh := xh) (xc := xc) (kc := kc) (ac := ac) (ky := ky) (ay := ay) (yl := yl) (yh := yh) (ya := ya) (yc := yc) (p := p) (by omega) hF 4 0 mk rfl
    exact ⟨_, m1, sp, fun post hp => ⟨hi, br_t Z1 ⟨hi, br_f Z3 ⟨hi, nm_e ⟨5, hX1 _ hp⟩⟩⟩⟩, fun post J x1 x2 x3 hJ => br_f h1 (br_f h64 (br_t h0 ⟨hi, br_t Z1 ⟨hi, br_f Z3 ⟨hi, nm_e ⟨5, hY1 _ (nm_r (nI_1 p) hJ)⟩⟩⟩⟩))⟩
  · by_cases Z3 : ss (nI p).toNatClampNeg = 3
    · obtain ⟨m1, hX1, hY1⟩ := qm_a2 (sw := sw) (cw := cw) (mp := mp) (ld := ld) (nx := nx) (lg := lg) (nw := nw) (ls := ls) (sp := sp + 1) (bc := bc) (vi := vi) (dc := dc) (ak := ak) (wr := wr) (hg := hg) (sb := sb) (kx := kx) (st := st) (ss := upd ss (nI p).toNatClampNeg 2) (fo := fo) (fl := fl) (cb := cb) (cf := cf) (co := co) (rh := rh) (ax := ax) (go := go) (bl := bl) (bh := bh) (dp := dp) (an := an) (xl := xl) (xh := xh) (xc := xc) (kc := kc) (ac := ac) (ky := ky) (ay := ay) (yl := yl) (yh := yh) (ya := ya) (yc := yc) (p := p) (by omega) hF 4 0 mk rfl
      exact ⟨_, m1, _, fun post hp => ⟨hi, br_f Z1 ⟨hi, br_t Z3 ⟨hi, br_t Z3 (nm_e ⟨hi, nm_e ⟨5, hX1 _ hp⟩⟩)⟩⟩⟩, fun post J x1 x2 x3 hJ => br_f h1 (br_f h64 (br_t h0 ⟨hi, br_f Z1 ⟨hi, br_t Z3 ⟨hi, br_t Z3 (nm_e ⟨hi, nm_e ⟨5, hY1 _ (nm_r (nI_1 p) hJ)⟩⟩)⟩⟩⟩))⟩
    · exact ⟨ss, mk, sp, fun post hp => ⟨hi, br_f Z1 ⟨hi, br_f Z3 hp⟩⟩, fun post J x1 x2 x3 hJ => br_f h1 (br_f h64 (br_t h0 ⟨hi, br_f Z1 ⟨hi, br_f Z3 (nm_r (nI_1 p) hJ)⟩⟩))⟩
/-- a range -/
theorem qk_l {h : Nat} (hh : h ≤ 63) (hF : qr_F fo fl) : ∀ (d p : Nat) (ss mk : Nat → Int32) (sp : Int32), p ≤ 64 → d = h + 1 - p → ∃ ss' mk' sp', (∀ (post : SX → Prop) (J : qt_X) (x1 x2 : Int32) (r : Nat), J (nI (r + 1)) sw cw mp ld nx lg nw ls sp' bc vi dc ak wr hg sb mk' kx st ss' fo fl cb cf co rh ax go bl bh dp an xl xh xc → wX_acceptAck_76 post J x1 x2 (nI r) (nI h) (d + 1) (nI p) sw cw mp ld nx lg nw ls sp bc vi dc ak wr hg sb mk kx st ss fo fl cb cf co rh ax go bl bh dp an xl xh xc) ∧ (∀ (post : SY → Prop) (J : qt_Y) (x1 x2 : Int32) (r : Nat), J (nI (r + 1)) sw cw mp ld kc nx lg nw ls sp' ac vi bc dc ak sb mk' wr hg ky st ss' fo fl cb cf co rh ay go bl bh dp an yl yh ya yc → wY_ackAtSender_118 post J x1 x2 (nI r) (nI h) (d + 1) (nI p) sw cw mp ld kc nx lg nw ls sp ac vi bc dc ak sb mk wr hg ky st ss fo fl cb cf co rh ay go bl bh dp an yl yh ya yc) := by
  intro d
  induction d with
  | zero =>
    intro p ss mk sp hp hd
    have h1 : nI h < nI p := nI_lt (by omega) (by omega)
    exact ⟨ss, mk, sp, fun post J x1 x2 r hJ => br_t h1 (nm_r (nI_1 r) hJ), fun post J x1 x2 r hJ => br_t h1 (nm_r (nI_1 r) hJ)⟩
  | succ d ih =>
    intro p ss mk sp hp hd
    have h1 : ¬ nI h < nI p := nI_nlt (by omega) (by omega)
    obtain ⟨s1, m1, q1, hX1, hY1⟩ := qk_a (sw := sw) (cw := cw) (mp := mp) (ld := ld) (nx := nx) (lg := lg) (nw := nw) (ls := ls) (sp := sp) (bc := bc) (vi := vi) (dc := dc) (ak := ak) (wr := wr) (hg := hg) (sb := sb) (mk := mk) (kx := kx) (st := st) (ss := ss) (fo := fo) (fl := fl) (cb := cb) (cf := cf) (co := co) (rh := rh) (ax := ax) (go := go) (bl := bl) (bh := bh) (dp := dp) (an := an) (xl := xl) (xh := xh) (xc := xc) (kc := kc) (ac := ac) (ky := ky) (ay := ay) (yl := yl) (yh := yh) (ya := ya) (yc := yc) (n := d + 1) (p := p) hh (by omega) hF
    obtain ⟨s2, m2, q2, hX2, hY2⟩ := ih (p + 1) s1 m1 q1 (by omega) (by omega)
    exact ⟨s2, m2, q2, fun post J x1 x2 r hJ => br_f h1 (hX1 _ (nm_r (nI_1 p) (hX2 post J x1 x2 r hJ))), fun post J x1 x2 r hJ => hY1 post J x1 x2 (nI r) (hY2 post J x1 x2 r hJ)⟩
/-- the ranges, and largest -/
theorem qk_r {S R : Nat} {lg' : Int32} (hS : S < 8) (hR : R ≤ 4) (hF : qr_F fo fl) (hxl : qa_B xl 63) (hxh : qa_B xh 63) (hy : ∀ r, r < R → xl (S * 4 + r) = yl (S * 4 + r) ∧ xh (S * 4 + r) = yh (S * 4 + r)) (l0 : R = 0 → lg' = lg) (l1 : 0 < R → lg' = qa_mx lg (xh (S * 4))) : ∀ (d r : Nat) (ss mk : Nat → Int32) (sp : Int32), r + d = R → ∃ ss' mk' sp', (∀ post : SX → Prop, wX_acceptAck_124 post sw cw mp ld nx lg' nw ls sp' bc vi dc ak wr hg sb mk' kx st ss' fo fl cb cf co rh ax go bl bh dp an xl xh xc → wX_acceptAck_47 post (nI S) (nI R) (d + 1) (nI r) sw cw mp ld nx lg nw ls sp bc vi dc ak wr hg sb mk kx st ss fo fl cb cf co rh ax go bl bh dp an xl xh xc) ∧ (∀ post : SY → Prop, wY_ackAtSender_242 post sw cw mp ld kc nx lg' nw ls sp' ac vi bc dc ak sb mk' wr hg ky st ss' fo fl cb cf co rh ay go bl bh dp an yl yh ya yc → wY_ackAtSender_80 post (nI S) (nI R) (d + 1) (nI r) sw cw mp ld kc nx lg nw ls sp ac vi bc dc ak sb mk wr hg ky st ss fo fl cb cf co rh ay go bl bh dp an yl yh ya yc) := by
  have e4 : nI S * 4 = nI (S * 4) := qa_m_4 S
  have ec : (nI S * 4).toNatClampNeg = S * 4 := by rw [e4, nI_clamp (by omega)]
  have h32 : vp_in (nI S * 4) 32 := pk_in (S * 4) 32 (by omega) e4
  intro d
  induction d with
  | zero =>
    intro r ss mk sp hr
    have h1 : nI R ≤ nI r := nI_le (by omega) (by omega)
    refine ⟨ss, mk, sp, fun post h => br_t h1 ?_, fun post h => br_t h1 ?_⟩
    · rcases Nat.eq_zero_or_pos R with z | z
      · rw [l0 z] at h
        subst z
        exact br_t (by decide) h
      · rw [l1 z, ← ec] at h
        exact br_f (fun q => absurd ((qa_le_0 (by omega)).mp q) (by omega)) ⟨h32, qv_gr h⟩
    · rcases Nat.eq_zero_or_pos R with z | z
      · rw [l0 z] at h
        subst z
        exact br_t (by decide) h
      · have eh : xh (S * 4) = yh (S * 4) := (hy 0 z).2
        rw [l1 z, eh, ← ec] at h
        refine br_f (fun q => absurd ((qa_le_0 (by omega)).mp q) (by omega)) ⟨h32, ?_⟩
        by_cases q : yh (nI S * 4).toNatClampNeg ≤ lg
        · rw [qa_mx2 (Int32.not_lt.mpr q)] at h
          exact br_t q h
        · rw [qa_mx1 (Int32.not_le.mp q)] at h
          exact br_f q ⟨h32, nm_e h⟩
  | succ d ih =>
    intro r ss mk sp hr
    have h1 : ¬ nI R ≤ nI r := nI_ge (by omega) (by omega)
    have e1 : nI S * 4 + nI r = nI (S * 4 + r) := by rw [qa_m_4, nI_add]
    have e2 : (nI S * 4 + nI r).toNatClampNeg = S * 4 + r := by rw [e1, nI_clamp (by omega)]
    have hi : vp_in (nI S * 4 + nI r) 32 := pk_in (S * 4 + r) 32 (by omega) e1
    obtain ⟨hyl, hyh⟩ := hy r (by omega)
    obtain ⟨lo, hlo, elo⟩ := hxl (S * 4 + r)
    obtain ⟨h, hh, ehi⟩ := hxh (S * 4 + r)
    obtain ⟨s1, m1, q1, hX1, hY1⟩ := qk_l (sw := sw) (cw := cw) (mp := mp) (ld := ld) (nx := nx) (lg := lg) (nw := nw) (ls := ls) (bc := bc) (vi := vi) (dc := dc) (ak := ak) (wr := wr) (hg := hg) (sb := sb) (kx := kx) (st := st) (fo := fo) (fl := fl) (cb := cb) (cf := cf) (co := co) (rh := rh) (ax := ax) (go := go) (bl := bl) (bh := bh) (dp := dp) (an := an) (xl := xl) (xh := xh) (xc := xc) (kc := kc) (ac := ac) (ky := ky) (ay := ay) (yl := yl) (yh := yh) (ya := ya) (yc := yc) hh hF (h + 1 - lo) lo ss mk sp (by omega) rfl
    obtain ⟨s2, m2, q2, hX2, hY2⟩ := ih (r + 1) s1 m1 q1 (by omega)
    exact ⟨s2, m2, q2, fun post hp => br_f h1 ⟨hi, nm_r (by rw [e2]; exact ehi) ⟨hi, nm_r (by rw [e2]; exact elo) ⟨h + 1 - lo + 1, hX1 _ _ _ _ r (hX2 post hp)⟩⟩⟩, fun post hp => br_f h1 (br_f (qm_l4 (by omega)) ⟨hi, nm_r (by rw [e2, ← hyl]; exact elo) ⟨hi, nm_r (by rw [e2, ← hyh]; exact ehi) ⟨h + 1 - lo + 1, hY1 _ _ _ _ r (hY2 post hp)⟩⟩⟩)⟩
theorem qk_all {A S : Nat} (hA : A ≤ 8) (hS : S < A) (hlg : lg = -1 ∨ ∃ L, L ≤ 63 ∧ lg = nI L) (hF : qr_F fo fl) (han : qa_B an 4) (hxl : qa_B xl 63) (hxh : qa_B xh 63) (hR : qr_R A an xl xh yl yh) : ∃ ss' mk' sp' ls' lg', (lg' = -1 ∨ ∃ L, L ≤ 63 ∧ lg' = nI L) ∧ (∀ post : SX → Prop, post (sw, cw, mp, ld, nx, lg', nw, ls', sp', bc, vi, dc, ak, wr, hg, sb, mk', qa_up kx (fun j => xc (S * 5 + j)) 5, st, ss', fo, fl, cb, cf, co, rh, ax, go, bl, bh, dp, an, xl, xh, xc) → wpX_acceptAck post (sw, cw, mp, ld, nx, lg, nw, ls, sp, bc, vi, dc, ak, wr, hg, sb, mk, kx, st, ss, fo, fl, cb, cf, co, rh, ax, go, bl, bh, dp, an, xl, xh, xc) (nI S)) ∧ (∀ post : SY → Prop, post (sw, cw, mp, ld, qa_mx kc (yc S), nx, lg', nw, ls', sp', ac, vi, bc, dc, ak, sb, mk', wr, hg, qa_up ky (fun j => ya (S * 4 + j)) 4, st, ss', fo, fl, cb, cf, co, rh, ay, go, bl, bh, dp, an, yl, yh, ya, yc) → wpY_ackAtSender post (sw, cw, mp, ld, kc, nx, lg, nw, ls, sp, ac, vi, bc, dc, ak, sb, mk, wr, hg, ky, st, ss, fo, fl, cb, cf, co, rh, ay, go, bl, bh, dp, an, yl, yh, ya, yc) (nI S)) := by
  obtain ⟨R, hR4, eR⟩ := han S
  have eR' : an (nI S).toNatClampNeg = nI R := by rw [nI_clamp (by omega)]; exact eR
  have hy := hR S hS R eR hR4
  obtain ⟨h0, hh0, eh0⟩ := hxh (S * 4)
  obtain ⟨lg', l0, l1, hl⟩ : ∃ lg' : Int32, (R = 0 → lg' = lg) ∧ (0 < R → lg' = qa_mx lg (xh (S * 4))) ∧ (lg' = -1 ∨ ∃ L, L ≤ 63 ∧ lg' = nI L) := by
    rcases Nat.eq_zero_or_pos R with z | z
    · exact ⟨lg, fun _ => rfl, fun q => absurd q (by omega), hlg⟩
    · refine ⟨_, fun q => absurd q (by omega), fun _ => rfl, ?_⟩
      by_cases q : lg < xh (S * 4)
      · rw [qa_mx1 q]; exact Or.inr ⟨h0, hh0, eh0⟩
      · rw [qa_mx2 q]; exact hlg
  obtain ⟨s1, m1, q1, hX1, hY1⟩ := qk_r (sw := sw) (cw := cw) (mp := mp) (ld := ld) (nx := nx) (lg := lg) (nw := nw) (ls := ls) (bc := bc) (vi := vi) (dc := dc) (ak := ak) (wr := wr) (hg := hg) (sb := sb) (kx := qa_up kx (fun j => xc (S * 5 + j)) 5) (st := st) (fo := fo) (fl := fl) (cb := cb) (cf := cf) (co := co) (rh := rh) (ax := ax) (go := go) (bl := bl) (bh := bh) (dp := dp) (an := an) (xl := xl) (xh := xh) (xc := xc) (kc := qa_mx kc (yc S)) (ac := ac) (ky := qa_up ky (fun j => ya (S * 4 + j)) 4) (ay := ay) (yl := yl) (yh := yh) (ya := ya) (yc := yc) (by omega) hR4 hF hxl hxh hy l0 l1 R 0 ss mk sp (by omega)
  obtain ⟨s2, m2, l2, hX2, hY2⟩ := qm_det (sw := sw) (cw := cw) (mp := mp) (ld := ld) (nx := nx) (lg := lg') (nw := nw) (ls := ls) (sp := q1) (bc := bc) (vi := vi) (dc := dc) (ak := ak) (wr := wr) (hg := hg) (sb := sb) (mk := m1) (kx := qa_up kx (fun j => xc (S * 5 + j)) 5) (st := st) (ss := s1) (fo := fo) (fl := fl) (cb := cb) (cf := cf) (co := co) (rh := rh) (ax := ax) (go := go) (bl := bl) (bh := bh) (dp := dp) (an := an) (xl := xl) (xh := xh) (xc := xc) (kc := qa_mx kc (yc S)) (ac := ac) (ky := qa_up ky (fun j => ya (S * 4 + j)) 4) (ay := ay) (yl := yl) (yh := yh) (ya := ya) (yc := yc) hl hF
  refine ⟨s2, m2, q1, l2, lg', hl, fun post hp => ⟨6, ?_⟩, fun post hp => ⟨5, ?_⟩⟩
  · have := qk_x (sw := sw) (cw := cw) (mp := mp) (ld := ld) (nx := nx) (lg := lg) (nw := nw) (ls := ls) (sp := sp) (bc := bc) (vi := vi) (dc := dc) (ak := ak) (wr := wr) (hg := hg) (sb := sb) (mk := mk) (kx := kx) (st := st) (ss := ss) (fo := fo) (fl := fl) (cb := cb) (cf := cf) (co := co) (rh := rh) (ax := ax) (go := go) (bl := bl) (bh := bh) (dp := dp) (an := an) (xl := xl) (xh := xh) (xc := xc) (by omega) eR' (post := post) ⟨R + 1, hX1 post (by unfold wX_acceptAck_124; exact hX2 _ hp)⟩ 5 0 rfl
    rw [qa_up0] at this
    exact this
  · have := qk_y (sw := sw) (cw := cw) (mp := mp) (ld := ld) (nx := nx) (lg := lg) (nw := nw) (ls := ls) (sp := sp) (bc := bc) (vi := vi) (dc := dc) (ak := ak) (wr := wr) (hg := hg) (sb := sb) (mk := mk) (st := st) (ss := ss) (fo := fo) (fl := fl) (cb := cb) (cf := cf) (co := co) (rh := rh) (go := go) (bl := bl) (bh := bh) (dp := dp) (an := an) (kc := kc) (ac := ac) (ky := ky) (ay := ay) (yl := yl) (yh := yh) (ya := ya) (yc := yc) (by omega) eR' (post := post) ⟨R + 1, hY1 post (by unfold wY_ackAtSender_242; exact hY2 _ hp)⟩ 4 0 rfl
    rw [qa_up0] at this
    exact this

theorem i_vc_deliver {k : Nat} {u : SX} {v : SY} (I : i_Rel k u v) (hk : k + 3 ≤ 1540) (v1 : Int32) (v2 : Int32) : wpX_deliver (fun r u' => wpY_deliver (fun r' v' => r' = r ∧ i_Rel (k + 3) u' v') v v1 v2) u v1 v2 := by
  obtain ⟨M, N, C, D, A, sw, cw, ld, lg, nw, ls, sp, vi, kc, ac, wr, hg, sb, mk, kx, st, ss, fo, fl, cb, cf, co, rh, ax, go, bl, bh, dp, an, xl, xh, xc, ky, ay, yl, yh, ya, yc, rfl, rfl, hI⟩ := I
  obtain ⟨⟨hM1, hM8, hN, hC, hD, hA⟩, hlg, hwr, hco, hrh, hcf, hgo, hF, hdp, hbl, hbh, han, hxl, hxh, hkx, hax, hK, hR⟩ := id hI
  by_cases e0 : v1 = 0
  · rcases qa_ix v2 (n := D) (by omega) with ⟨h0, hm⟩ | ⟨h0, h1, h2, hm⟩ | ⟨j, hj, rfl⟩
    · exact br_t e0 (br_t h0 (br_t rfl (br_t e0 (br_t h0 (br_f qa_10 ⟨rfl, qr_mk hI⟩)))))
    · exact br_t e0 (br_f h0 (br_t h1 (br_t rfl (br_t e0 (br_f h0 (br_f h2 (br_f qa_10 ⟨rfl, qr_mk hI⟩)))))))
    · have h0 := nI_pos (n := j) (by omega)
      have h8 : vp_in (nI j) 8 := vp_in_nI (by omega) (by omega)
      obtain ⟨p, hp, ep⟩ := hdp (nI j).toNatClampNeg
      have hp0 := nI_pos (n := p) (by omega)
      have hp64 : ¬ 64 ≤ nI p := nI_ge (b := 64) (by omega) (by omega)
      obtain ⟨hX, hY⟩ := qd_rd (sw := sw) (cw := cw) (mp := nI M) (ld := ld) (nx := nI N) (lg := lg) (nw := nw) (ls := ls) (sp := sp) (bc := nI C) (vi := vi) (ak := nI A) (wr := wr) (hg := hg) (sb := sb) (mk := mk) (kx := kx) (st := st) (ss := ss) (fo := fo) (fl := fl) (cb := cb) (cf := cf) (co := co) (rh := rh) (ax := ax) (go := go) (bl := bl) (bh := bh) (dp := dp) (an := an) (xl := xl) (xh := xh) (xc := xc) (kc := kc) (ac := ac) (ky := ky) (ay := ay) (yl := yl) (yh := yh) (ya := ya) (yc := yc) hj hD
      obtain ⟨vi', cb', cf', rh', go', hrh', hcf', hgo', hX2, hY2⟩ := qv_rcv (sw := sw) (cw := cw) (mp := nI M) (ld := ld) (nx := nI N) (lg := lg) (nw := nw) (ls := ls) (sp := sp) (bc := nI C) (vi := vi) (dc := nI (D - 1)) (ak := nI A) (wr := wr) (hg := hg) (sb := sb) (mk := mk) (kx := kx) (st := st) (ss := ss) (fo := fo) (fl := fl) (cb := cb) (cf := cf) (co := co) (rh := rh) (ax := ax) (go := go) (bl := bl) (bh := bh) (dp := qa_sh dp j (D - 1) 1) (an := an) (xl := xl) (xh := xh) (xc := xc) (kc := kc) (ac := ac) (ky := ky) (ay := ay) (yl := yl) (yh := yh) (ya := ya) (yc := yc) (p := p) (by omega) hF hax hrh hcf hgo
      exact br_t e0 (br_f h0 (br_f (nI_ge hj (by omega)) (br_f qa_10 (br_t e0 ⟨h8, nm_r ep (hX _ (hX2 _ (br_t e0 (br_f h0 (br_t (nI_lt hj (by omega)) (br_t rfl (br_t e0 ⟨h8, nm_r ep (hY _ (br_f hp0 (br_f hp64 (hY2 _ ⟨rfl, qr_mk ⟨⟨hM1, hM8, hN, hC, by omega, hA⟩, hlg, hwr, hco, hrh', hcf', hgo', hF, qa_Bsh hdp, hbl, hbh, han, hxl, hxh, hkx, hax, hK, hR⟩⟩))))⟩)))))))⟩))))
  · by_cases e1 : v1 = 1
    · rcases qa_ix v2 (n := A) (by omega) with ⟨h0, hm⟩ | ⟨h0, h1, h2, hm⟩ | ⟨j, hj, rfl⟩
      · exact br_f e0 (br_t e1 (br_t h0 (br_t rfl (br_f e0 (br_t e1 (br_t h0 (br_f qa_10 ⟨rfl, qr_mk hI⟩)))))))
      · exact br_f e0 (br_t e1 (br_f h0 (br_t h1 (br_t rfl (br_f e0 (br_t e1 (br_f h0 (br_f h2 (br_f qa_10 ⟨rfl, qr_mk hI⟩)))))))))
      · have h0 := nI_pos (n := j) (by omega)
        obtain ⟨ss', mk', sp', ls', lg', hlg', hX, hY⟩ := qk_all (sw := sw) (cw := cw) (mp := nI M) (ld := ld) (nx := nI N) (lg := lg) (nw := nw) (ls := ls) (sp := sp) (bc := nI C) (vi := vi) (dc := nI D) (ak := nI A) (wr := wr) (hg := hg) (sb := sb) (mk := mk) (kx := kx) (st := st) (ss := ss) (fo := fo) (fl := fl) (cb := cb) (cf := cf) (co := co) (rh := rh) (ax := ax) (go := go) (bl := bl) (bh := bh) (dp := dp) (an := an) (xl := xl) (xh := xh) (xc := xc) (kc := kc) (ac := ac) (ky := ky) (ay := ay) (yl := yl) (yh := yh) (ya := ya) (yc := yc) hA hj hlg hF han hxl hxh hR
        obtain ⟨hX2, hY2⟩ := qd_ra (sw := sw) (cw := cw) (mp := nI M) (ld := ld) (nx := nI N) (lg := lg') (nw := nw) (ls := ls') (sp := sp') (bc := nI C) (vi := vi) (dc := nI D) (wr := wr) (hg := hg) (sb := sb) (mk := mk') (kx := qa_up kx (fun i => xc (j * 5 + i)) 5) (st := st) (ss := ss') (fo := fo) (fl := fl) (cb := cb) (cf := cf) (co := co) (rh := rh) (ax := ax) (go := go) (bl := bl) (bh := bh) (dp := dp) (an := an) (xl := xl) (xh := xh) (xc := xc) (kc := qa_mx kc (yc j)) (ac := ac) (ky := qa_up ky (fun i => ya (j * 4 + i)) 4) (ay := ay) (yl := yl) (yh := yh) (ya := ya) (yc := yc) hj hA
        exact br_f e0 (br_t e1 (br_f h0 (br_f (nI_ge hj (by omega)) (br_f qa_10 (br_f e0 (hX _ (hX2 _ (br_f e0 (br_t e1 (br_f h0 (br_t (nI_lt hj (by omega)) (br_t rfl (br_f e0 (hY _ (hY2 _ ⟨rfl, qr_mk ⟨⟨hM1, hM8, hN, hC, hD, by omega⟩, hlg', hwr, hco, hrh, hcf, hgo, hF, hdp, hbl, hbh, qa_Bsh han, qa_Bsh hxl, qa_Bsh hxh, qr_Cack hkx hK hj, hax, qr_Ksh hK hj, qr_Rsh hR hj⟩⟩)))))))))))))))
    · exact br_f e0 (br_f e1 (br_t rfl (br_f e0 (br_f e1 (br_f qa_10 ⟨rfl, qr_mk hI⟩)))))
end QK
