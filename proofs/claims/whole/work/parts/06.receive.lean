section QV
variable {sw cw mp ld nx lg nw ls sp bc vi dc ak kc ac : Int32} {wr hg sb mk kx st ss fo fl cb cf co rh ax go bl bh dp an xl xh xc ky ay yl yh ya yc : Nat → Int32}
def qv_sm (a : Nat → Int32) : Int32 := 0 + a (0 : Int32).toNatClampNeg + a (1 : Int32).toNatClampNeg + a (2 : Int32).toNatClampNeg + a (3 : Int32).toNatClampNeg
theorem qv_sX1 {post : Int32 → Prop} (h : post (qv_sm rh)) : wpX_sumOverStreams__receivedHigh post (sw, cw, mp, ld, nx, lg, nw, ls, sp, bc, vi, dc, ak, wr, hg, sb, mk, kx, st, ss, fo, fl, cb, cf, co, rh, ax, go, bl, bh, dp, an, xl, xh, xc) := ⟨5, (br_f (by decide) ⟨vp_in_iff.mpr (by decide), nm_e (nm_r (e' := 1) (by decide) (br_f (by decide) ⟨vp_in_iff.mpr (by decide), nm_e (nm_r (e' := 2) (by decide) (br_f (by decide) ⟨vp_in_iff.mpr (by decide), nm_e (nm_r (e' := 3) (by decide) (br_f (by decide) ⟨vp_in_iff.mpr (by decide), nm_e (nm_r (e' := 4) (by decide) (br_t (by decide) h))⟩))⟩))⟩))⟩)⟩
theorem qv_sX2 {post : Int32 → Prop} (h : post (qv_sm co)) : wpX_sumOverStreams__consumed post (sw, cw, mp, ld, nx, lg, nw, ls, sp, bc, vi, dc, ak, wr, hg, sb, mk, kx, st, ss, fo, fl, cb, cf, co, rh, ax, go, bl, bh, dp, an, xl, xh, xc) := ⟨5, (br_f (by decide) ⟨vp_in_iff.mpr (by decide), nm_e (nm_r (e' := 1) (by decide) (br_f (by decide) ⟨vp_in_iff.mpr (by decide), nm_e (nm_r (e' := 2) (by decide) (br_f (by decide) ⟨vp_in_iff.mpr (by decide), nm_e (nm_r (e' := 3) (by decide) (br_f (by decide) ⟨vp_in_iff.mpr (by decide), nm_e (nm_r (e' := 4) (by decide) (br_t (by decide) h))⟩))⟩))⟩))⟩)⟩
theorem qv_sX3 {post : Int32 → Prop} (h : post (qv_sm hg)) : wpX_sumOverStreams__sentHigh post (sw, cw, mp, ld, nx, lg, nw, ls, sp, bc, vi, dc, ak, wr, hg, sb, mk, kx, st, ss, fo, fl, cb, cf, co, rh, ax, go, bl, bh, dp, an, xl, xh, xc) := ⟨5, (br_f (by decide) ⟨vp_in_iff.mpr (by decide), nm_e (nm_r (e' := 1) (by decide) (br_f (by decide) ⟨vp_in_iff.mpr (by decide), nm_e (nm_r (e' := 2) (by decide) (br_f (by decide) ⟨vp_in_iff.mpr (by decide), nm_e (nm_r (e' := 3) (by decide) (br_f (by decide) ⟨vp_in_iff.mpr (by decide), nm_e (nm_r (e' := 4) (by decide) (br_t (by decide) h))⟩))⟩))⟩))⟩)⟩
theorem qv_sY1 {post : Int32 → Prop} (h : post (qv_sm rh)) : wpY_rSum post (sw, cw, mp, ld, kc, nx, lg, nw, ls, sp, ac, vi, bc, dc, ak, sb, mk, wr, hg, ky, st, ss, fo, fl, cb, cf, co, rh, ay, go, bl, bh, dp, an, yl, yh, ya, yc) := ⟨5, (br_f (by decide) ⟨vp_in_iff.mpr (by decide), nm_e (nm_r (e' := 1) (by decide) (br_f (by decide) ⟨vp_in_iff.mpr (by decide), nm_e (nm_r (e' := 2) (by decide) (br_f (by decide) ⟨vp_in_iff.mpr (by decide), nm_e (nm_r (e' := 3) (by decide) (br_f (by decide) ⟨vp_in_iff.mpr (by decide), nm_e (nm_r (e' := 4) (by decide) (br_t (by decide) h))⟩))⟩))⟩))⟩)⟩
theorem qv_sY3 {post : Int32 → Prop} (h : post (qv_sm hg)) : wpY_usedSum post (sw, cw, mp, ld, kc, nx, lg, nw, ls, sp, ac, vi, bc, dc, ak, sb, mk, wr, hg, ky, st, ss, fo, fl, cb, cf, co, rh, ay, go, bl, bh, dp, an, yl, yh, ya, yc) := ⟨5, (br_f (by decide) ⟨vp_in_iff.mpr (by decide), nm_e (nm_r (e' := 1) (by decide) (br_f (by decide) ⟨vp_in_iff.mpr (by decide), nm_e (nm_r (e' := 2) (by decide) (br_f (by decide) ⟨vp_in_iff.mpr (by decide), nm_e (nm_r (e' := 3) (by decide) (br_f (by decide) ⟨vp_in_iff.mpr (by decide), nm_e (nm_r (e' := 4) (by decide) (br_t (by decide) h))⟩))⟩))⟩))⟩)⟩
theorem qv_gr {post : Int32 → Prop} {a b : Int32} (h : post (qa_mx a b)) : wpX_greater post a b := by
  by_cases z : a ≤ b
  · rw [qa_mx3 z] at h; exact br_t z h
  · rw [qa_mx4 z] at h; exact br_f z h
theorem qv_le {post : Int32 → Prop} {a b : Int32} (h : post (qa_mn a b)) : wpX_lesser post a b := by
  by_cases z : b ≤ a
  · rw [qa_mn3 z] at h; exact br_t z h
  · rw [qa_mn4 z] at h; exact br_f z h
theorem qv_g {x q : Nat} (hx : x < 32) (hq : q ≤ 32) : nI x + 1 - nI q ≤ 0 ↔ nI x < nI q := by
  rw [nI_1, Int32.le_iff_toInt_le, pk_sub_toInt (by omega) (by omega), nI_ltI (by omega) (by omega), show (0 : Int32).toInt = 0 from by decide]
  omega
theorem qv_cl {s : Nat} (hs : s < 4) : (nI s).toNatClampNeg = s := nI_clamp (by omega)
/-- one byte at the receiver -/
theorem qv_b {s o i l n : Nat} (hs : s < 4) (hi : i < l) (hol : o + l ≤ 32) (hrh : qa_B rh 32) (hcf : qa_B cf 1) (hax : qr_C ax ay ac) : ∃ vi' cb' cf' rh', qa_B rh' 32 ∧ qa_B cf' 1 ∧ (∀ post : SX → Prop, post (sw, cw, mp, ld, nx, lg, nw, ls, sp, bc, vi', dc, ak, wr, hg, sb, mk, kx, st, ss, fo, fl, cb', cf', co, rh', ax, go, bl, bh, dp, an, xl, xh, xc) → wpX_receiveByte post (sw, cw, mp, ld, nx, lg, nw, ls, sp, bc, vi, dc, ak, wr, hg, sb, mk, kx, st, ss, fo, fl, cb, cf, co, rh, ax, go, bl, bh, dp, an, xl, xh, xc) (nI s) (nI (o + i))) ∧ (∀ (post : SY → Prop) (J : Int32 → Int32 → qt_B) (x1 : Int32), wY_dataAtReceiver_40 post J x1 (nI s) (nI o) (nI l) sw cw mp ld kc nx lg nw ls sp ac bc dc ak n (nI (i + 1)) vi' sb mk wr hg ky st ss fo fl cb' cf' co rh' ay go bl bh dp an yl yh ya yc → wY_dataAtReceiver_40 post J x1 (nI s) (nI o) (nI l) sw cw mp ld kc nx lg nw ls sp ac bc dc ak (n + 1) (nI i) vi sb mk wr hg ky st ss fo fl cb cf co rh ay go bl bh dp an yl yh ya yc) := by
  have h4 : vp_in (nI s) 4 := vp_in_nI hs (by omega)
  have h5 : vp_in (nI s) 5 := vp_in_nI (by omega) (by omega)
  have hx : vp_in (nI s * 32 + nI (o + i)) 128 := ql_ix32 hs (by omega)
  have h0 : ¬ nI (o + i) < 0 := nI_pos (by omega)
  have h32 : nI (o + i) < 32 := nI_lt (b := 32) (by omega) (by omega)
  have hli : ¬ nI l ≤ nI i := nI_ge hi (by omega)
  have e : ax (nI s).toNatClampNeg = ay (nI s).toNatClampNeg := by rw [qv_cl hs]; exact hax.1 s hs
  have e4 : ax 4 = ac := hax.2
  obtain ⟨q, hq, eq⟩ := hrh (nI s).toNatClampNeg
  have G : nI (o + i) + 1 - rh (nI s).toNatClampNeg ≤ 0 ↔ nI (o + i) < rh (nI s).toNatClampNeg := by
    rw [eq]; exact qv_g (by omega) hq
  by_cases P : nI (o + i) < ax (nI s).toNatClampNeg
  · have P' : ¬ ay (nI s).toNatClampNeg ≤ nI (o + i) := by rw [← e]; exact Int32.not_le.mpr P
    have V : (∃ r, r = 0 ∧ ∀ post : Int32 → Prop, post r → wpX_violatesCredit post (sw, cw, mp, ld, nx, lg, nw, ls, sp, bc, vi, dc, ak, wr, hg, sb, mk, kx, st, ss, fo, fl, cb, cf, co, rh, ax, go, bl, bh, dp, an, xl, xh, xc) (nI s) (nI (o + i))) → ((nI (o + i) < rh (nI s).toNatClampNeg) ∨ (¬ nI (o + i) < rh (nI s).toNatClampNeg ∧ qv_sm rh + (nI (o + i) + 1 - rh (nI s).toNatClampNeg) ≤ ac)) → ∃ vi' cb' cf' rh', qa_B rh' 32 ∧ qa_B cf' 1 ∧ (∀ post : SX → Prop, post (sw, cw, mp, ld, nx, lg, nw, ls, sp, bc, vi', dc, ak, wr, hg, sb, mk, kx, st, ss, fo, fl, cb', cf', co, rh', ax, go, bl, bh, dp, an, xl, xh, xc) → wpX_receiveByte post (sw, cw, mp, ld, nx, lg, nw, ls, sp, bc, vi, dc, ak, wr, hg, sb, mk, kx, st, ss, fo, fl, cb, cf, co, rh, ax, go, bl, bh, dp, an, xl, xh, xc) (nI s) (nI (o + i))) ∧ (∀ (post : SY → Prop) (J : Int32 → Int32 → qt_B) (x1 : Int32), wY_dataAtReceiver_40 post J x1 (nI s) (nI o) (nI l) sw cw mp ld kc nx lg nw ls sp ac bc dc ak n (nI (i + 1)) vi' sb mk wr hg ky st ss fo fl cb' cf' co rh' ay go bl bh dp an yl yh ya yc → wY_dataAtReceiver_40 post J x1 (nI s) (nI o) (nI l) sw cw mp ld kc nx lg nw ls sp ac bc dc ak (n + 1) (nI i) vi sb mk wr hg ky st ss fo fl cb cf co rh ay go bl bh dp an yl yh ya yc) := by
      rintro ⟨r, rfl, hV⟩ hH
      have hrh' : qa_B (upd rh (nI s).toNatClampNeg (qa_mx (rh (nI s).toNatClampNeg) (nI (o + i) + 1))) 32 := by
        refine qa_Bx hrh ?_
        by_cases z : rh (nI s).toNatClampNeg ≤ nI (o + i) + 1
        · rw [qa_mx3 z]; exact ⟨o + i + 1, by omega, nI_1 _⟩
        · rw [qa_mx4 z]; exact ⟨q, hq, eq⟩
      -- Y's way to its row 151
      have Y151 : ∀ (post : SY → Prop) (J : Int32 → Int32 → qt_B) (x1 : Int32), wY_dataAtReceiver_151 post J (wY_dataAtReceiver_40 post J x1 (nI s) (nI o) (nI l) sw cw mp ld kc nx lg nw ls sp ac bc dc ak n) x1 (nI s) (nI o) (nI l) (nI i) (nI (o + i)) sw cw mp ld kc nx lg nw ls sp ac vi bc dc ak sb mk wr hg ky st ss fo fl cb cf co (upd rh (nI s).toNatClampNeg (qa_mx (rh (nI s).toNatClampNeg) (nI (o + i) + 1))) ay go bl bh dp an yl yh ya yc → wY_dataAtReceiver_40 post J x1 (nI s) (nI o) (nI l) sw cw mp ld kc nx lg nw ls sp ac bc dc ak (n + 1) (nI i) vi sb mk wr hg ky st ss fo fl cb cf co rh ay go bl bh dp an yl yh ya yc := by
        intro post J x1 h
        have Y130 : wY_dataAtReceiver_130 post J (wY_dataAtReceiver_40 post J x1 (nI s) (nI o) (nI l) sw cw mp ld kc nx lg nw ls sp ac bc dc ak n) x1 (nI s) (nI o) (nI l) (nI i) (nI (o + i)) sw cw mp ld kc nx lg nw ls sp ac vi bc dc ak sb mk wr hg ky st ss fo fl cb cf co rh ay go bl bh dp an yl yh ya yc := by
          by_cases z : nI (o + i) < rh (nI s).toNatClampNeg
          · have em : qa_mx (rh (nI s).toNatClampNeg) (nI (o + i) + 1) = rh (nI s).toNatClampNeg := by
              have z2 := z
              rw [eq, nI_ltI (by omega) (by omega)] at z2
              refine qa_mx2 ?_
              rw [eq, nI_1, nI_ltI (by omega) (by omega)]
              omega
            rw [qa_id em] at h
            exact ⟨h4, br_t z h⟩
          · have em : qa_mx (rh (nI s).toNatClampNeg) (nI (o + i) + 1) = nI (o + i) + 1 := by
              have z2 := z
              rw [eq, nI_ltI (by omega) (by omega)] at z2
              refine qa_mx1 ?_
              rw [eq, nI_1, nI_ltI (by omega) (by omega)]
              omega
            rw [em] at h
            exact ⟨h4, br_f z ⟨h4, nm_e h⟩⟩
        rcases hH with H | ⟨H1, H2⟩
        · exact br_f hli (nm_r (nI_add o i) (br_f h0 (br_t h32 (qv_sY1 ⟨h4, br_f P' ⟨h4, br_t H Y130⟩⟩))))
        · exact br_f hli (nm_r (nI_add o i) (br_f h0 (br_t h32 (qv_sY1 ⟨h4, br_f P' ⟨h4, br_f H1 ⟨h4, br_t H2 Y130⟩⟩⟩))))
      by_cases f : cf (nI s * 32 + nI (o + i)).toNatClampNeg = 0
      · refine ⟨vi, upd cb (nI s * 32 + nI (o + i)).toNatClampNeg (sb (nI s * 32 + nI (o + i)).toNatClampNeg), upd cf (nI s * 32 + nI (o + i)).toNatClampNeg (vp_nar .boolean 1), _, hrh', qa_Bx hcf ⟨1, by omega, qa_vb1⟩, fun post hp => by unfold wpX_receiveByte; exact hV _ (br_t rfl ⟨h4, qv_gr ⟨h4, nm_e (nm_e ⟨hx, br_t f ⟨hx, hx, nm_e ⟨hx, nm_e hp⟩⟩⟩)⟩⟩), fun post J x1 hp => Y151 post J x1 ⟨hx, br_t f ⟨hx, hx, nm_e ⟨hx, nm_e (nm_r (nI_1 i) hp)⟩⟩⟩⟩
      · refine ⟨vi, cb, cf, _, hrh', hcf, fun post hp => by unfold wpX_receiveByte; exact hV _ (br_t rfl ⟨h4, qv_gr ⟨h4, nm_e (nm_e ⟨hx, br_f f hp⟩)⟩⟩), fun post J x1 hp => Y151 post J x1 ⟨hx, br_f f (nm_r (nI_1 i) hp)⟩⟩
    by_cases R : nI (o + i) < rh (nI s).toNatClampNeg
    · exact V ⟨0, rfl, fun post hp => ⟨h5, br_t P ⟨h4, nm_e (br_t (G.mpr R) hp)⟩⟩⟩ (Or.inl R)
    · have R' := fun z => R (G.mp z)
      by_cases H : qv_sm rh + (nI (o + i) + 1 - rh (nI s).toNatClampNeg) ≤ ac
      · exact V ⟨0, rfl, fun post hp => ⟨h5, br_t P ⟨h4, nm_e (br_f R' (qv_sX1 (br_t (by rw [e4]; exact H) hp)))⟩⟩⟩ (Or.inr ⟨R, H⟩)
      · exact ⟨vi + 1, cb, cf, rh, hrh, hcf, fun post hp => ⟨h5, br_t P ⟨h4, nm_e (br_f R' (qv_sX1 (br_f (by rw [e4]; exact H) (br_f qa_10 (nm_e hp)))))⟩⟩, fun post J x1 hp => br_f hli (nm_r (nI_add o i) (br_f h0 (br_t h32 (qv_sY1 ⟨h4, br_f P' ⟨h4, br_f R ⟨h4, br_f H (nm_e (nm_r (nI_1 i) hp))⟩⟩⟩))))⟩
  · have P' : ay (nI s).toNatClampNeg ≤ nI (o + i) := by rw [← e]; exact Int32.not_lt.mp P
    exact ⟨vi + 1, cb, cf, rh, hrh, hcf, fun post hp => ⟨h5, br_f P (br_f qa_10 (nm_e hp))⟩, fun post J x1 hp => br_f hli (nm_r (nI_add o i) (br_f h0 (br_t h32 (qv_sY1 ⟨h4, br_t P' (nm_e (nm_r (nI_1 i) hp))⟩))))⟩
/-- a frame's bytes -/
theorem qv_f {s o l : Nat} (hs : s < 4) (hol : o + l ≤ 32) (hax : qr_C ax ay ac) : ∀ (d i : Nat) (vi : Int32) (cb cf rh : Nat → Int32), i + d = l → qa_B rh 32 → qa_B cf 1 → ∃ vi' cb' cf' rh', qa_B rh' 32 ∧ qa_B cf' 1 ∧ (∀ (post : SX → Prop) (J : qt_X) (x1 : Int32), J (nI (s + 1)) sw cw mp ld nx lg nw ls sp bc vi' dc ak wr hg sb mk kx st ss fo fl cb' cf' co rh' ax go bl bh dp an xl xh xc → wX_receivePacket_42 post J x1 (nI s) (nI (o + l)) (d + 1) (nI (o + i)) sw cw mp ld nx lg nw ls sp bc vi dc ak wr hg sb mk kx st ss fo fl cb cf co rh ax go bl bh dp an xl xh xc) ∧ (∀ (post : SY → Prop) (J : Int32 → Int32 → qt_B) (x1 : Int32), J (nI (s + 1)) vi' sb mk wr hg ky st ss fo fl cb' cf' co rh' ay go bl bh dp an yl yh ya yc → wY_dataAtReceiver_40 post J x1 (nI s) (nI o) (nI l) sw cw mp ld kc nx lg nw ls sp ac bc dc ak (d + 1) (nI i) vi sb mk wr hg ky st ss fo fl cb cf co rh ay go bl bh dp an yl yh ya yc) := by
  intro d
  induction d with
  | zero =>
    intro i vi cb cf rh hi hrh hcf
    have h1 : nI (o + l) ≤ nI (o + i) := nI_le (by omega) (by omega)
    have h2 : nI l ≤ nI i := nI_le (by omega) (by omega)
    exact ⟨vi, cb, cf, rh, hrh, hcf, fun post J x1 h => br_t h1 (nm_r (nI_1 s) h), fun post J x1 h => br_t h2 (nm_r (nI_1 s) h)⟩
  | succ d ih =>
    intro i vi cb cf rh hi hrh hcf
    have h1 : ¬ nI (o + l) ≤ nI (o + i) := nI_ge (by omega) (by omega)
    obtain ⟨v1, c1, f1, r1, hr1, hf1, hX1, hY1⟩ := qv_b (sw := sw) (cw := cw) (mp := mp) (ld := ld) (nx := nx) (lg := lg) (nw := nw) (ls := ls) (sp := sp) (bc := bc) (vi := vi) (dc := dc) (ak := ak) (wr := wr) (hg := hg) (sb := sb) (mk := mk) (kx := kx) (st := st) (ss := ss) (fo := fo) (fl := fl) (cb := cb) (cf := cf) (co := co) (rh := rh) (ax := ax) (go := go) (bl := bl) (bh := bh) (dp := dp) (an := an) (xl := xl) (xh := xh) (xc := xc) (kc := kc) (ac := ac) (ky := ky) (ay := ay) (yl := yl) (yh := yh) (ya := ya) (yc := yc) (n := d + 1) hs (i := i) (by omega) hol hrh hcf hax
    obtain ⟨v2, c2, f2, r2, hr2, hf2, hX2, hY2⟩ := ih (i + 1) v1 c1 f1 r1 (by omega) hr1 hf1
    exact ⟨v2, c2, f2, r2, hr2, hf2, fun post J x1 h => br_f h1 (hX1 _ (nm_r (nI_1 (o + i)) (hX2 post J x1 h))), fun post J x1 h => hY1 post J x1 (hY2 post J x1 h)⟩
theorem qv_p {p : Nat} (hp : p < 64) (hF : qr_F fo fl) (hax : qr_C ax ay ac) : ∀ (d s : Nat) (vi : Int32) (cb cf rh : Nat → Int32), s + d = 4 → qa_B rh 32 → qa_B cf 1 → ∃ vi' cb' cf' rh', qa_B rh' 32 ∧ qa_B cf' 1 ∧ (∀ post : SX → Prop, post (sw, cw, mp, ld, nx, lg, nw, ls, sp, bc, vi', dc, ak, wr, hg, sb, mk, kx, st, ss, fo, fl, cb', cf', co, rh', ax, go, bl, bh, dp, an, xl, xh, xc) → wX_receivePacket_9 post (nI p) (d + 1) (nI s) sw cw mp ld nx lg nw ls sp bc vi dc ak wr hg sb mk kx st ss fo fl cb cf co rh ax go bl bh dp an xl xh xc) ∧ (∀ post : SY → Prop, post (sw, cw, mp, ld, kc, nx, lg, nw, ls, sp, ac, vi', bc, dc, ak, sb, mk, wr, hg, ky, st, ss, fo, fl, cb', cf', co, rh', ay, go, bl, bh, dp, an, yl, yh, ya, yc) → wY_dataAtReceiver_9 post (nI p) sw cw mp ld kc nx lg nw ls sp ac bc dc ak (d + 1) (nI s) vi sb mk wr hg ky st ss fo fl cb cf co rh ay go bl bh dp an yl yh ya yc) := by
  intro d
  induction d with
  | zero =>
    intro s vi cb cf rh hs hrh hcf
    have h := qm_g4 (s := s) (by omega) (by omega)
    exact ⟨vi, cb, cf, rh, hrh, hcf, fun post hp => br_t h hp, fun post hp => br_t h hp⟩
  | succ d ih =>
    intro s vi cb cf rh hs hrh hcf
    have h := qm_l4 (s := s) (by omega)
    have h6 : vp_in (nI p * 4 + nI s) 256 := ql_ix4 (by omega) hp
    obtain ⟨o, l, eo, el, hol⟩ := hF (nI p * 4 + nI s).toNatClampNeg
    have ee : nI o + fl (nI p * 4 + nI s).toNatClampNeg = nI (o + l) := by rw [el, nI_add]
    obtain ⟨v1, c1, f1, r1, hr1, hf1, hX1, hY1⟩ := qv_f (sw := sw) (cw := cw) (mp := mp) (ld := ld) (nx := nx) (lg := lg) (nw := nw) (ls := ls) (sp := sp) (bc := bc) (dc := dc) (ak := ak) (wr := wr) (hg := hg) (sb := sb) (mk := mk) (kx := kx) (st := st) (ss := ss) (fo := fo) (fl := fl) (co := co) (ax := ax) (go := go) (bl := bl) (bh := bh) (dp := dp) (an := an) (xl := xl) (xh := xh) (xc := xc) (kc := kc) (ac := ac) (ky := ky) (ay := ay) (yl := yl) (yh := yh) (ya := ya) (yc := yc) (s := s) (by omega) hol hax l 0 vi cb cf rh (by omega) hrh hcf
    obtain ⟨v2, c2, f2, r2, hr2, hf2, hX2, hY2⟩ := ih (s + 1) v1 c1 f1 r1 (by omega) hr1 hf1
    exact ⟨v2, c2, f2, r2, hr2, hf2, fun post hp => br_f h ⟨h6, nm_r eo ⟨h6, nm_r ee ⟨l + 1, hX1 _ _ _ (hX2 post hp)⟩⟩⟩, fun post hp => br_f h ⟨h6, nm_r eo ⟨h6, nm_r el ⟨l + 1, hY1 _ _ _ (hY2 post hp)⟩⟩⟩⟩
theorem qv_rcv {p : Nat} (hp : p < 64) (hF : qr_F fo fl) (hax : qr_C ax ay ac) (hrh : qa_B rh 32) (hcf : qa_B cf 1) (hgo : qa_B go 1) : ∃ vi' cb' cf' rh' go', qa_B rh' 32 ∧ qa_B cf' 1 ∧ qa_B go' 1 ∧ (∀ post : SX → Prop, post (sw, cw, mp, ld, nx, lg, nw, ls, sp, bc, vi', dc, ak, wr, hg, sb, mk, kx, st, ss, fo, fl, cb', cf', co, rh', ax, go', bl, bh, dp, an, xl, xh, xc) → wpX_receivePacket post (sw, cw, mp, ld, nx, lg, nw, ls, sp, bc, vi, dc, ak, wr, hg, sb, mk, kx, st, ss, fo, fl, cb, cf, co, rh, ax, go, bl, bh, dp, an, xl, xh, xc) (nI p)) ∧ (∀ post : SY → Prop, post (sw, cw, mp, ld, kc, nx, lg, nw, ls, sp, ac, vi', bc, dc, ak, sb, mk, wr, hg, ky, st, ss, fo, fl, cb', cf', co, rh', ay, go', bl, bh, dp, an, yl, yh, ya, yc) → wpY_dataAtReceiver post (sw, cw, mp, ld, kc, nx, lg, nw, ls, sp, ac, vi, bc, dc, ak, sb, mk, wr, hg, ky, st, ss, fo, fl, cb, cf, co, rh, ay, go, bl, bh, dp, an, yl, yh, ya, yc) (nI p)) := by
  have hi : vp_in (nI p) 64 := vp_in_nI hp (by omega)
  obtain ⟨v2, c2, f2, r2, hr2, hf2, hX2, hY2⟩ := qv_p (sw := sw) (cw := cw) (mp := mp) (ld := ld) (nx := nx) (lg := lg) (nw := nw) (ls := ls) (sp := sp) (bc := bc) (dc := dc) (ak := ak) (wr := wr) (hg := hg) (sb := sb) (mk := mk) (kx := kx) (st := st) (ss := ss) (fo := fo) (fl := fl) (co := co) (ax := ax) (go := upd go (nI p).toNatClampNeg (vp_nar .boolean 1)) (bl := bl) (bh := bh) (dp := dp) (an := an) (xl := xl) (xh := xh) (xc := xc) (kc := kc) (ac := ac) (ky := ky) (ay := ay) (yl := yl) (yh := yh) (ya := ya) (yc := yc) hp hF hax 4 0 vi cb cf rh rfl hrh hcf
  exact ⟨v2, c2, f2, r2, _, hr2, hf2, qa_Bx hgo ⟨1, by omega, qa_vb1⟩, fun post h => ⟨hi, nm_e ⟨5, hX2 post h⟩⟩, fun post h => ⟨hi, nm_e ⟨5, hY2 post h⟩⟩⟩

end QV
