section QP
variable {sw cw mp ld nx lg nw ls sp bc vi dc ak kc ac : Int32} {wr hg sb mk kx st ss fo fl cb cf co rh ax go bl bh dp an xl xh xc ky ay yl yh ya yc : Nat → Int32}
theorem qp_fp {s w : Nat} (hs : s < 4) (hw : w ≤ 32) (ew : wr (nI s).toNatClampNeg = nI w) : ∀ d j : Nat, j + d = w → ∃ q, q ≤ w ∧ (∀ post : Int32 → Prop, post (nI q) → wX_firstPending_2 post (nI s) sw cw mp ld nx lg nw ls sp bc vi dc ak wr hg sb mk kx st ss fo fl cb cf co rh ax go bl bh dp an xl xh xc (d + 1) (nI j)) ∧ (∀ post : Int32 → Prop, (q < w → post (nI q)) → (q = w → post (-1)) → wY_firstPending_2 post (nI s) sw cw mp ld kc nx lg nw ls sp ac vi bc dc ak sb mk wr hg ky st ss fo fl cb cf co rh ay go bl bh dp an yl yh ya yc (d + 1) (nI j)) := by
  intro d
  have h4 : vp_in (nI s) 4 := vp_in_nI hs (by omega)
  induction d with
  | zero =>
    intro j hj
    have h : wr (nI s).toNatClampNeg ≤ nI j := by rw [ew]; exact nI_le (by omega) (by omega)
    exact ⟨w, Nat.le_refl w, fun post hp => ⟨h4, br_t h ⟨h4, by rw [ew]; exact hp⟩⟩, fun post h1 h2 => ⟨h4, br_t h (h2 rfl)⟩⟩
  | succ d ih =>
    intro j hj
    have h : ¬ wr (nI s).toNatClampNeg ≤ nI j := by rw [ew]; exact nI_ge (by omega) (by omega)
    have hi : vp_in (nI s * 32 + nI j) 128 := ql_ix32 hs (by omega)
    by_cases z : mk (nI s * 32 + nI j).toNatClampNeg = 1
    · exact ⟨j, by omega, fun post hp => ⟨h4, br_f h ⟨hi, br_t z hp⟩⟩, fun post h1 h2 => ⟨h4, br_f h ⟨hi, br_t z (h1 (by omega))⟩⟩⟩
    · obtain ⟨q, hq, hX, hY⟩ := ih (j + 1) (by omega)
      exact ⟨q, hq, fun post hp => ⟨h4, br_f h ⟨hi, br_f z (nm_r (nI_1 j) (hX post hp))⟩⟩, fun post h1 h2 => ⟨h4, br_f h ⟨hi, br_f z (nm_r (nI_1 j) (hY post h1 h2))⟩⟩⟩
theorem qp_mx1 {x : Nat} {h : Int32} (hx : x < 100) (z : nI x < h) : qa_mx h (nI x + 1) = h := by
  refine qa_mx2 ?_
  rw [nI_1, Int32.lt_iff_toInt_lt, nI_toInt (by omega)]
  rw [Int32.lt_iff_toInt_lt, nI_toInt (by omega)] at z
  omega
theorem qp_mx2 {x : Nat} {h : Int32} (hx : x < 100) (z : ¬ nI x < h) : qa_mx h (nI x + 1) = nI x + 1 := by
  refine qa_mx1 ?_
  rw [nI_1, Int32.lt_iff_toInt_lt, nI_toInt (by omega)]
  rw [Int32.lt_iff_toInt_lt, nI_toInt (by omega)] at z
  omega
/-- one frame -/
theorem qp_in {s w q B : Nat} (hs : s < 4) (hw : w ≤ 32) (ew : wr (nI s).toNatClampNeg = nI w) (hB : B ≤ 8) (hkx : qr_C kx ky kc) : ∀ (d len : Nat) (mk hg : Nat → Int32), q + len + d = w → len ≤ B → ∃ len' mk' hg', len' ≤ B ∧ q + len' ≤ w ∧ (∀ post : Int32 → SX → Prop, wX_packFrame_84 post (nI s) (nI q) (nI len') sw cw mp ld nx lg nw ls sp bc vi dc ak wr hg' sb mk' kx st ss fo fl cb cf co rh ax go bl bh dp an xl xh xc → wX_packFrame_20 post (nI s) (nI B) (nI q) (nI w) sw cw mp ld nx lg nw ls sp bc vi dc ak (d + 1) (nI len) (nI (q + len)) wr hg sb mk kx st ss fo fl cb cf co rh ax go bl bh dp an xl xh xc) ∧ (∀ (post : Int32 → SY → Prop) (J : Int32 → Int32 → Int32 → qt_B) (x1 x3 : Int32), wY_sendData_205 post J x1 (nI (B - len')) x3 (nI s) (nI q) (nI len') sw cw mp ld kc nx lg nw ls sp ac vi bc dc ak sb mk' wr hg' ky st ss fo fl cb cf co rh ay go bl bh dp an yl yh ya yc → wY_sendData_71 post J x1 x3 (nI s) (nI q) sw cw mp ld kc nx lg nw ls sp ac vi bc dc ak (d + 1) (nI (B - len)) (nI len) sb mk wr hg ky st ss fo fl cb cf co rh ay go bl bh dp an yl yh ya yc) := by
  intro d
  have h4 : vp_in (nI s) 4 := vp_in_nI hs (by omega)
  have h5 : vp_in (nI s) 5 := vp_in_nI (by omega) (by omega)
  have e : kx (nI s).toNatClampNeg = ky (nI s).toNatClampNeg := by rw [qv_cl hs]; exact hkx.1 s hs
  have e4 : kx 4 = kc := hkx.2
  induction d with
  | zero =>
    intro len mk hg hq hl
    have hX : nI w ≤ nI (q + len) := nI_le (by omega) (by omega)
    refine ⟨len, mk, hg, hl, by omega, fun post h => br_t hX h, fun post J x1 x3 h => ?_⟩
    by_cases b : B ≤ len
    · exact br_t ((qa_le_0 (by omega)).mpr (by omega)) h
    · refine br_f (fun z => absurd ((qa_le_0 (by omega)).mp z) (by omega)) ?_
      by_cases c : 32 ≤ len
      · exact br_t ((qa_ge_32 (by omega)).mpr c) h
      · exact br_f (fun z => absurd ((qa_ge_32 (by omega)).mp z) c) (nm_r (nI_add q len) ⟨h4, br_t (by rw [ew]; exact hX) h⟩)
  | succ d ih =>
    intro len mk hg hq hl
    have hX : ¬ nI w ≤ nI (q + len) := nI_ge (by omega) (by omega)
    have hY : ¬ wr (nI s).toNatClampNeg ≤ nI (q + len) := by rw [ew]; exact hX
    have hi : vp_in (nI s * 32 + nI (q + len)) 128 := ql_ix32 hs (by omega)
    by_cases b : B ≤ len
    · exact ⟨len, mk, hg, hl, by omega, fun post h => br_f hX (br_t (nI_le b (by omega)) h), fun post J x1 x3 h => br_t ((qa_le_0 (by omega)).mpr (by omega)) h⟩
    · have b1 : ¬ nI B ≤ nI len := nI_ge (by omega) (by omega)
      have b2 : ¬ nI (B - len) ≤ 0 := fun z => absurd ((qa_le_0 (by omega)).mp z) (by omega)
      have b3 : ¬ 32 ≤ nI len := fun z => absurd ((qa_ge_32 (by omega)).mp z) (by omega)
      have b4 : nI (B - len) + (-1) = nI (B - (len + 1)) := by
        rw [qa_m1 (by omega)]
        exact congrArg nI (by omega)
      by_cases M1 : mk (nI s * 32 + nI (q + len)).toNatClampNeg = 1
      · by_cases K : nI (q + len) < kx (nI s).toNatClampNeg
        · have K' : nI (q + len) < ky (nI s).toNatClampNeg := by rw [← e]; exact K
          obtain ⟨len', mk', hg', hl', hq', hX1, hY1⟩ := ih (len + 1) (upd mk (nI s * 32 + nI (q + len)).toNatClampNeg 2) (upd hg (nI s).toNatClampNeg (qa_mx (hg (nI s).toNatClampNeg) (nI (q + len) + 1))) (by omega) (by omega)
          have Y159 : ∀ (post : Int32 → SY → Prop) (J : Int32 → Int32 → Int32 → qt_B) (x1 x3 : Int32), wY_sendData_205 post J x1 (nI (B - len')) x3 (nI s) (nI q) (nI len') sw cw mp ld kc nx lg nw ls sp ac vi bc dc ak sb mk' wr hg' ky st ss fo fl cb cf co rh ay go bl bh dp an yl yh ya yc → wY_sendData_159 post J (wY_sendData_71 post J x1 x3 (nI s) (nI q) sw cw mp ld kc nx lg nw ls sp ac vi bc dc ak (d + 1)) x1 (nI (B - len)) x3 (nI s) (nI q) (nI len) (nI (q + len)) sw cw mp ld kc nx lg nw ls sp ac vi bc dc ak sb mk wr hg ky st ss fo fl cb cf co rh ay go bl bh dp an yl yh ya yc := by
            intro post J x1 x3 h
            have I := hY1 post J x1 x3 h
            by_cases H : nI (q + len) < hg (nI s).toNatClampNeg
            · rw [qa_id (qp_mx1 (by omega) H)] at I
              exact ⟨hi, nm_e ⟨h4, br_t H (nm_r (nI_1 len) (nm_r b4 I))⟩⟩
            · rw [qp_mx2 (by omega) H] at I
              exact ⟨hi, nm_e ⟨h4, br_f H ⟨h4, nm_e (nm_r (nI_1 len) (nm_r b4 I))⟩⟩⟩
          by_cases H : nI (q + len) < hg (nI s).toNatClampNeg
          · exact ⟨len', mk', hg', hl', hq', fun post h => br_f hX (br_f b1 ⟨hi, br_t M1 ⟨h5, br_t K ⟨h4, br_t H (br_f qa_10 ⟨hi, nm_e ⟨h4, qv_gr ⟨h4, nm_e (nm_r (nI_1 len) (nm_r (nI_1 (q + len)) (hX1 post h)))⟩⟩⟩)⟩⟩⟩), fun post J x1 x3 h => br_f b2 (br_f b3 (nm_r (nI_add q len) ⟨h4, br_f hY ⟨hi, br_t M1 ⟨h4, br_t K' ⟨h4, br_t H (Y159 post J x1 x3 h)⟩⟩⟩⟩))⟩
          · by_cases U : qv_sm hg < kc
            · have U' : ¬ kx 4 ≤ qv_sm hg := by rw [e4]; exact Int32.not_le.mpr U
              exact ⟨len', mk', hg', hl', hq', fun post h => br_f hX (br_f b1 ⟨hi, br_t M1 ⟨h5, br_t K ⟨h4, br_f H (qv_sX3 (br_f U' (br_f qa_10 ⟨hi, nm_e ⟨h4, qv_gr ⟨h4, nm_e (nm_r (nI_1 len) (nm_r (nI_1 (q + len)) (hX1 post h)))⟩⟩⟩)))⟩⟩⟩), fun post J x1 x3 h => br_f b2 (br_f b3 (nm_r (nI_add q len) ⟨h4, br_f hY ⟨hi, br_t M1 ⟨h4, br_t K' ⟨h4, br_f H (qv_sY3 (br_t U (Y159 post J x1 x3 h)))⟩⟩⟩⟩))⟩
            · have U' : kx 4 ≤ qv_sm hg := by rw [e4]; exact Int32.not_lt.mp U
              exact ⟨len, mk, hg, hl, by omega, fun post h => br_f hX (br_f b1 ⟨hi, br_t M1 ⟨h5, br_t K ⟨h4, br_f H (qv_sX3 (br_t U' (br_t rfl h)))⟩⟩⟩), fun post J x1 x3 h => br_f b2 (br_f b3 (nm_r (nI_add q len) ⟨h4, br_f hY ⟨hi, br_t M1 ⟨h4, br_t K' ⟨h4, br_f H (qv_sY3 (br_f U h))⟩⟩⟩⟩))⟩
        · have K' : ¬ nI (q + len) < ky (nI s).toNatClampNeg := by rw [← e]; exact K
          exact ⟨len, mk, hg, hl, by omega, fun post h => br_f hX (br_f b1 ⟨hi, br_t M1 ⟨h5, br_f K (br_t rfl h)⟩⟩), fun post J x1 x3 h => br_f b2 (br_f b3 (nm_r (nI_add q len) ⟨h4, br_f hY ⟨hi, br_t M1 ⟨h4, br_f K' h⟩⟩⟩))⟩
      · exact ⟨len, mk, hg, hl, by omega, fun post h => br_f hX (br_f b1 ⟨hi, br_f M1 (br_t rfl h)⟩), fun post J x1 x3 h => br_f b2 (br_f b3 (nm_r (nI_add q len) ⟨h4, br_f hY ⟨hi, br_f M1 h⟩⟩))⟩
/-- X's remaining streams with no budget left -/
theorem qp_z {post : Int32 → SX → Prop} (hwr : qa_B wr 32) (h : wX_sendData_31 post 1 (nI 0) (nI 4) sw cw mp ld nx lg nw ls sp bc vi dc ak wr hg sb mk kx st ss fo fl cb cf co rh ax go bl bh dp an xl xh xc) : ∀ d s : Nat, s + d = 4 → wX_sendData_31 post (d + 1) (nI 0) (nI s) sw cw mp ld nx lg nw ls sp bc vi dc ak wr hg sb mk kx st ss fo fl cb cf co rh ax go bl bh dp an xl xh xc := by
  intro d
  induction d with
  | zero =>
    intro s hs
    obtain rfl : s = 4 := by omega
    exact h
  | succ d ih =>
    intro s hs
    have h4 : vp_in (nI s) 4 := vp_in_nI (by omega) (by omega)
    obtain ⟨w, hw, ew⟩ := hwr (nI s).toNatClampNeg
    obtain ⟨q, hq, hXf, -⟩ := qp_fp (sw := sw) (cw := cw) (mp := mp) (ld := ld) (nx := nx) (lg := lg) (nw := nw) (ls := ls) (sp := sp) (bc := bc) (vi := vi) (dc := dc) (ak := ak) (wr := wr) (hg := hg) (sb := sb) (mk := mk) (kx := kx) (st := st) (ss := ss) (fo := fo) (fl := fl) (cb := cb) (cf := cf) (co := co) (rh := rh) (ax := ax) (go := go) (bl := bl) (bh := bh) (dp := dp) (an := an) (xl := xl) (xh := xh) (xc := xc) (kc := 0) (ac := 0) (ky := fun _ => 0) (ay := fun _ => 0) (yl := fun _ => 0) (yh := fun _ => 0) (ya := fun _ => 0) (yc := fun _ => 0) (s := s) (by omega) hw ew w 0 (by omega)
    have h84 : wX_packFrame_84 (fun r u => match u with | (sw, cw, mp, ld, nx, lg, nw, ls, sp, bc, vi, dc, ak, wr, hg, sb, mk, kx, st, ss, fo, fl, cb, cf, co, rh, ax, go, bl, bh, dp, an, xl, xh, xc) => ∀ y, y = nI 0 - r → ∀ z, z = nI s + 1 → wX_sendData_31 post (d + 1) y z sw cw mp ld nx lg nw ls sp bc vi dc ak wr hg sb mk kx st ss fo fl cb cf co rh ax go bl bh dp an xl xh xc) (nI s) (nI q) 0 sw cw mp ld nx lg nw ls sp bc vi dc ak wr hg sb mk kx st ss fo fl cb cf co rh ax go bl bh dp an xl xh xc := br_t (by decide) (nm_r (e' := nI 0) (by decide) (nm_r (nI_1 s) (ih (s + 1) (by omega))))
    refine br_f (qm_l4 (by omega)) ⟨w + 1, hXf _ ⟨h4, nm_r ew ⟨1, ?_⟩⟩⟩
    by_cases z : nI w ≤ nI q
    · exact br_t z h84
    · exact br_f z (br_t (Int32.le_refl _) h84)
/-- the four streams -/
theorem qp_out {M N : Nat} (hM8 : M ≤ 8) (hN : N < 64) (hwr : qa_B wr 32) (hkx : qr_C kx ky kc) : ∀ (d s B : Nat) (any : Int32) (mk hg fo fl : Nat → Int32), s + d = 4 → (any = 0 ∧ B = M) ∨ (any = 1 ∧ B < M) → qr_F fo fl → ∃ B' any' mk' hg' fo' fl', ((any' = 0 ∧ B' = M) ∨ (any' = 1 ∧ B' < M)) ∧ qr_F fo' fl' ∧ (∀ post : Int32 → SX → Prop, wX_sendData_31 post 1 (nI B') (nI 4) sw cw mp ld (nI N) lg nw ls sp bc vi dc ak wr hg' sb mk' kx st ss fo' fl' cb cf co rh ax go bl bh dp an xl xh xc → wX_sendData_31 post (d + 1) (nI B) (nI s) sw cw mp ld (nI N) lg nw ls sp bc vi dc ak wr hg sb mk kx st ss fo fl cb cf co rh ax go bl bh dp an xl xh xc) ∧ (∀ post : Int32 → SY → Prop, wY_sendData_244 post (nI N) any' sw cw mp ld kc (nI N) lg nw ls sp ac vi bc dc ak sb mk' wr hg' ky st ss fo' fl' cb cf co rh ay go bl bh dp an yl yh ya yc → wY_sendData_39 post (nI N) sw cw mp ld kc (nI N) lg nw ls sp ac vi bc dc ak (d + 1) (nI B) any (nI s) sb mk wr hg ky st ss fo fl cb cf co rh ay go bl bh dp an yl yh ya yc) := by
  intro d
  induction d with
  | zero =>
    intro s B any mk hg fo fl hs hB hF
    obtain rfl : s = 4 := by omega
    exact ⟨B, any, mk, hg, fo, fl, hB, hF, fun post h => h, fun post h => br_t (qm_g4 (by omega) (by omega)) h⟩
  | succ d ih =>
    intro s B any mk hg fo fl hs hB hF
    have hs4 := qm_l4 (s := s) (by omega)
    have h4 : vp_in (nI s) 4 := vp_in_nI (by omega) (by omega)
    rcases Nat.eq_zero_or_pos B with b0 | b0
    · subst b0
      exact ⟨0, any, mk, hg, fo, fl, hB, hF, fun post h => qp_z hwr h (d + 1) s (by omega), fun post h => br_f hs4 (br_t rfl h)⟩
    · have hbn : ¬ nI B = 0 := fun z => absurd ((qa_eq_0 (by omega)).mp z) (by omega)
      obtain ⟨w, hw, ew⟩ := hwr (nI s).toNatClampNeg
      obtain ⟨q, hq, hXf, hYf⟩ := qp_fp (sw := sw) (cw := cw) (mp := mp) (ld := ld) (nx := nI N) (lg := lg) (nw := nw) (ls := ls) (sp := sp) (bc := bc) (vi := vi) (dc := dc) (ak := ak) (wr := wr) (hg := hg) (sb := sb) (mk := mk) (kx := kx) (st := st) (ss := ss) (fo := fo) (fl := fl) (cb := cb) (cf := cf) (co := co) (rh := rh) (ax := ax) (go := go) (bl := bl) (bh := bh) (dp := dp) (an := an) (xl := xl) (xh := xh) (xc := xc) (kc := kc) (ac := ac) (ky := ky) (ay := ay) (yl := yl) (yh := yh) (ya := ya) (yc := yc) (s := s) (by omega) hw ew w 0 (by omega)
      rcases Nat.eq_or_lt_of_le hq with rfl | hqw
      · obtain ⟨B', any', mk', hg', fo', fl', hB', hF', hX, hY⟩ := ih (s + 1) B any mk hg fo fl (by omega) hB hF
        exact ⟨B', any', mk', hg', fo', fl', hB', hF', fun post h => br_f hs4 ⟨q + 1, hXf _ ⟨h4, nm_r ew ⟨1, br_t (Int32.le_refl _) (br_t (by decide) (nm_r (Int32.sub_zero (nI B)) (nm_r (nI_1 s) (hX post h))))⟩⟩⟩, fun post h => br_f hs4 (br_f hbn ⟨q + 1, hYf _ (fun z => absurd z (by omega)) (fun _ => br_f (by decide) (nm_r (nI_1 s) (hY post h)))⟩)⟩
      · obtain ⟨len, m1, g1, hl, hql, hXi, hYi⟩ := qp_in (sw := sw) (cw := cw) (mp := mp) (ld := ld) (nx := nI N) (lg := lg) (nw := nw) (ls := ls) (sp := sp) (bc := bc) (vi := vi) (dc := dc) (ak := ak) (wr := wr) (sb := sb) (kx := kx) (st := st) (ss := ss) (fo := fo) (fl := fl) (cb := cb) (cf := cf) (co := co) (rh := rh) (ax := ax) (go := go) (bl := bl) (bh := bh) (dp := dp) (an := an) (xl := xl) (xh := xh) (xc := xc) (kc := kc) (ac := ac) (ky := ky) (ay := ay) (yl := yl) (yh := yh) (ya := ya) (yc := yc) (s := s) (q := q) (B := B) (by omega) hw ew (by omega) hkx (w - q) 0 mk hg (by omega) (by omega)
        have hq0 : 0 ≤ nI q := nI_pos' (by omega)
        rcases Nat.eq_zero_or_pos len with l0 | l0
        · subst l0
          obtain ⟨B', any', mk', hg', fo', fl', hB', hF', hX, hY⟩ := ih (s + 1) B any m1 g1 fo fl (by omega) hB hF
          exact ⟨B', any', mk', hg', fo', fl', hB', hF', fun post h => br_f hs4 ⟨w + 1, hXf _ ⟨h4, nm_r ew ⟨w - q + 1, hXi _ (br_t (by decide) (nm_r (Int32.sub_zero (nI B)) (nm_r (nI_1 s) (hX post h))))⟩⟩⟩, fun post h => br_f hs4 (br_f hbn ⟨w + 1, hYf _ (fun _ => br_t hq0 ⟨w - q + 1, hYi _ _ _ _ (br_t (by decide) (nm_r (nI_1 s) (hY post h)))⟩) (fun z => absurd z (by omega))⟩)⟩
        · have hln : ¬ nI len ≤ 0 := fun z => absurd ((qa_le_0 (by omega)).mp z) (by omega)
          have h6 : vp_in (nI N * 4 + nI s) 256 := ql_ix4 (by omega) hN
          obtain ⟨B', any', mk', hg', fo', fl', hB', hF', hX, hY⟩ := ih (s + 1) (B - len) 1 m1 g1 (upd fo (nI N * 4 + nI s).toNatClampNeg (nI q)) (upd fl (nI N * 4 + nI s).toNatClampNeg (nI len)) (by omega) (Or.inr ⟨rfl, by omega⟩) (qr_Fu hF (by omega))
          exact ⟨B', any', mk', hg', fo', fl', hB', hF', fun post h => br_f hs4 ⟨w + 1, hXf _ ⟨h4, nm_r ew ⟨w - q + 1, hXi _ (br_f hln ⟨h6, nm_e ⟨h6, nm_e (nm_r (pk_sub hl) (nm_r (nI_1 s) (hX post h)))⟩⟩)⟩⟩⟩, fun post h => br_f hs4 (br_f hbn ⟨w + 1, hYf _ (fun _ => br_t hq0 ⟨w - q + 1, hYi _ _ _ _ (br_f hln ⟨h6, nm_e ⟨h6, nm_e (nm_r (nI_1 s) (hY post h))⟩⟩)⟩) (fun z => absurd z (by omega))⟩)⟩

theorem i_vc_sendData {k : Nat} {u : SX} {v : SY} (I : i_Rel k u v) (hk : k + 3 ≤ 1540) : wpX_sendData (fun r u' => wpY_sendData (fun r' v' => r' = r ∧ i_Rel (k + 3) u' v') v) u := by
  obtain ⟨M, N, C, D, A, sw, cw, ld, lg, nw, ls, sp, vi, kc, ac, wr, hg, sb, mk, kx, st, ss, fo, fl, cb, cf, co, rh, ax, go, bl, bh, dp, an, xl, xh, xc, ky, ay, yl, yh, ya, yc, rfl, rfl, hI⟩ := I
  obtain ⟨⟨hM1, hM8, hN, hC, hD, hA⟩, hlg, hwr, hco, hrh, hcf, hgo, hF, hdp, hbl, hbh, han, hxl, hxh, hkx, hax, hK, hR⟩ := id hI
  by_cases hN64 : N = 64
  · subst hN64
    exact br_t rfl (br_t rfl ⟨rfl, qr_mk hI⟩)
  · have hn : ¬ nI N = 64 := fun z => hN64 ((qa_eq_64 (by omega)).mp z)
    by_cases hD8 : D = 8
    · subst hD8
      exact br_f hn (br_t rfl (br_f hn (br_t rfl ⟨rfl, qr_mk hI⟩)))
    · have hd : ¬ nI D = 8 := fun z => hD8 ((qa_eq_8 (by omega)).mp z)
      obtain ⟨B', any', mk', hg', fo', fl', hB', hF', hX, hY⟩ := qp_out (sw := sw) (cw := cw) (mp := nI M) (ld := ld) (lg := lg) (nw := nw) (ls := ls) (sp := sp) (bc := nI C) (vi := vi) (dc := nI D) (ak := nI A) (wr := wr) (sb := sb) (kx := kx) (st := st) (ss := ss) (cb := cb) (cf := cf) (co := co) (rh := rh) (ax := ax) (go := go) (bl := bl) (bh := bh) (dp := dp) (an := an) (xl := xl) (xh := xh) (xc := xc) (kc := kc) (ac := ac) (ky := ky) (ay := ay) (yl := yl) (yh := yh) (ya := ya) (yc := yc) hM8 (N := N) (by omega) hwr hkx 4 0 M 0 mk hg fo fl rfl (Or.inl ⟨rfl, rfl⟩) hF
      rcases hB' with ⟨rfl, rfl⟩ | ⟨rfl, hlt⟩
      · exact br_f hn (br_f hd ⟨5, hX _ (br_t (Int32.le_refl _) (br_t rfl (br_f hn (br_f hd ⟨5, hY _ (br_t rfl ⟨rfl, qr_mk ⟨⟨hM1, hM8, hN, hC, hD, hA⟩, hlg, hwr, hco, hrh, hcf, hgo, hF', hdp, hbl, hbh, han, hxl, hxh, hkx, hax, hK, hR⟩⟩)⟩))))⟩)
      · have hb : ¬ nI B' = nI M := fun z => absurd ((nI_eq (by omega) (by omega)).mp z) (by omega)
        have h64 : vp_in (nI N) 64 := vp_in_nI (by omega) (by omega)
        have h8 : vp_in (nI D) 8 := vp_in_nI (by omega) (by omega)
        exact br_f hn (br_f hd ⟨5, hX _ (br_t (Int32.le_refl _) (br_f hb (nm_r (nI_1 N) ⟨h64, nm_e ⟨h64, nm_e ⟨h8, nm_e (nm_r (nI_1 D) (br_f hn (br_f hd ⟨5, hY _ (br_f qa_10 (nm_r (nI_1 N) ⟨h64, nm_e ⟨h64, nm_e ⟨h8, nm_e (nm_r (nI_1 D) ⟨rfl, qr_mk ⟨⟨hM1, hM8, by omega, hC, by omega, hA⟩, hlg, hwr, hco, hrh, hcf, hgo, hF', qa_Bu hdp (by omega), hbl, hbh, han, hxl, hxh, hkx, hax, hK, hR⟩⟩)⟩⟩⟩))⟩)))⟩⟩⟩)))⟩)
end QP
