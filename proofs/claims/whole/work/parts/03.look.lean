section QL
variable {sw cw mp ld nx lg nw ls sp bc vi dc ak kc ac : Int32} {wr hg sb mk kx st ss fo fl cb cf co rh ax go bl bh dp an xl xh xc ky ay yl yh ya yc : Nat → Int32}
theorem ql_ix32 {s j : Nat} (hs : s < 4) (hj : j < 32) : vp_in (nI s * 32 + nI j) 128 := pk_in (s * 32 + j) 128 (by omega) (by rw [qa_m_32, nI_add])
theorem ql_ix4 {p s : Nat} (hs : s < 4) (hj : p < 64) : vp_in (nI p * 4 + nI s) 256 := pk_in (p * 4 + s) 256 (by omega) (by rw [qa_m_4, nI_add])
theorem ql_cm {s w : Nat} (hs : s < 4) (hw : w ≤ 32) (ew : wr (nI s).toNatClampNeg = nI w) (m : Int32) : ∀ (d j : Nat) (c : Int32), j + d = w → ∃ r, (∀ post : Int32 → Prop, post r → wX_countMarks_5 post (nI s) m sw cw mp ld nx lg nw ls sp bc vi dc ak wr hg sb mk kx st ss fo fl cb cf co rh ax go bl bh dp an xl xh xc (d + 1) c (nI j)) ∧ (∀ post : Int32 → Prop, post r → wY_countMarks_5 post (nI s) m sw cw mp ld kc nx lg nw ls sp ac vi bc dc ak sb mk wr hg ky st ss fo fl cb cf co rh ay go bl bh dp an yl yh ya yc (d + 1) c (nI j)) := by
  intro d
  have h4 : vp_in (nI s) 4 := vp_in_nI hs (by omega)
  induction d with
  | zero =>
    intro j c hj
    have h : wr (nI s).toNatClampNeg ≤ nI j := by rw [ew]; exact nI_le (by omega) (by omega)
    exact ⟨c, fun _ hp => ⟨h4, br_t h hp⟩, fun _ hp => ⟨h4, br_t h hp⟩⟩
  | succ d ih =>
    intro j c hj
    have h : ¬ wr (nI s).toNatClampNeg ≤ nI j := by rw [ew]; exact nI_ge (by omega) (by omega)
    have hi : vp_in (nI s * 32 + nI j) 128 := ql_ix32 hs (by omega)
    by_cases z : mk (nI s * 32 + nI j).toNatClampNeg = m
    · obtain ⟨r, hX, hY⟩ := ih (j + 1) (c + 1) (by omega)
      exact ⟨r, fun post hp => ⟨h4, br_f h ⟨hi, br_t z (nm_e (nm_r (nI_1 j) (hX post hp)))⟩⟩, fun post hp => ⟨h4, br_f h ⟨hi, br_t z (nm_e (nm_r (nI_1 j) (hY post hp)))⟩⟩⟩
    · obtain ⟨r, hX, hY⟩ := ih (j + 1) c (by omega)
      exact ⟨r, fun post hp => ⟨h4, br_f h ⟨hi, br_f z (nm_r (nI_1 j) (hX post hp))⟩⟩, fun post hp => ⟨h4, br_f h ⟨hi, br_f z (nm_r (nI_1 j) (hY post hp))⟩⟩⟩
theorem ql_cf {s : Nat} (hs : s < 4) : ∀ (d j : Nat) (c : Int32), j + d = 32 → ∃ r, (∀ post : Int32 → Prop, post r → wX_countFlags_4 post (nI s) sw cw mp ld nx lg nw ls sp bc vi dc ak wr hg sb mk kx st ss fo fl cb cf co rh ax go bl bh dp an xl xh xc (d + 1) c (nI j)) ∧ (∀ post : Int32 → Prop, post r → wY_streamInfo_93 post (nI s) sw cw mp ld kc nx lg nw ls sp ac vi bc dc ak sb mk wr hg ky st ss fo fl cb cf co rh ay go bl bh dp an yl yh ya yc (d + 1) c (nI j)) := by
  intro d
  induction d with
  | zero =>
    intro j c hj
    have h : 32 ≤ nI j := (qa_ge_32 (by omega)).mpr (by omega)
    exact ⟨c, fun _ hp => br_t h hp, fun _ hp => br_t h hp⟩
  | succ d ih =>
    intro j c hj
    have h : ¬ 32 ≤ nI j := fun z => absurd ((qa_ge_32 (by omega)).mp z) (by omega)
    have hi : vp_in (nI s * 32 + nI j) 128 := ql_ix32 hs (by omega)
    by_cases z : cf (nI s * 32 + nI j).toNatClampNeg = 0
    · obtain ⟨r, hX, hY⟩ := ih (j + 1) c (by omega)
      exact ⟨r, fun post hp => br_f h ⟨hi, br_t z (nm_r (nI_1 j) (hX post hp))⟩, fun post hp => br_f h ⟨hi, br_t z (nm_r (nI_1 j) (hY post hp))⟩⟩
    · obtain ⟨r, hX, hY⟩ := ih (j + 1) (c + 1) (by omega)
      exact ⟨r, fun post hp => br_f h ⟨hi, br_f z (nm_e (nm_r (nI_1 j) (hX post hp)))⟩, fun post hp => br_f h ⟨hi, br_f z (nm_e (nm_r (nI_1 j) (hY post hp)))⟩⟩
theorem ql_cmM {s : Nat} (hs : s < 4) (hwr : qa_B wr 32) (m : Int32) : ∃ r, (∀ post : Int32 → Prop, post r → wpX_countMarks post (sw, cw, mp, ld, nx, lg, nw, ls, sp, bc, vi, dc, ak, wr, hg, sb, mk, kx, st, ss, fo, fl, cb, cf, co, rh, ax, go, bl, bh, dp, an, xl, xh, xc) (nI s) m) ∧ (∀ post : Int32 → Prop, post r → wpY_countMarks post (sw, cw, mp, ld, kc, nx, lg, nw, ls, sp, ac, vi, bc, dc, ak, sb, mk, wr, hg, ky, st, ss, fo, fl, cb, cf, co, rh, ay, go, bl, bh, dp, an, yl, yh, ya, yc) (nI s) m) := by
  obtain ⟨w, hw, ew⟩ := hwr (nI s).toNatClampNeg
  obtain ⟨r, hX, hY⟩ := ql_cm hs hw ew m w 0 0 (by omega)
  exact ⟨r, fun post hp => ⟨w + 1, hX post hp⟩, fun post hp => ⟨w + 1, hY post hp⟩⟩
theorem ql_cfM {s : Nat} (hs : s < 4) : ∃ r, (∀ post : Int32 → Prop, post r → wpX_countFlags post (sw, cw, mp, ld, nx, lg, nw, ls, sp, bc, vi, dc, ak, wr, hg, sb, mk, kx, st, ss, fo, fl, cb, cf, co, rh, ax, go, bl, bh, dp, an, xl, xh, xc) (nI s)) ∧ (∀ post : Int32 → Prop, post r → ∃ n, wY_streamInfo_93 post (nI s) sw cw mp ld kc nx lg nw ls sp ac vi bc dc ak sb mk wr hg ky st ss fo fl cb cf co rh ay go bl bh dp an yl yh ya yc n 0 0) := by
  obtain ⟨r, hX, hY⟩ := ql_cf hs 32 0 0 (by omega)
  exact ⟨r, fun post hp => ⟨33, hX post hp⟩, fun post hp => ⟨33, hY post hp⟩⟩

theorem i_vc_packetState {k : Nat} {u : SX} {v : SY} (I : i_Rel k u v) (hk : k + 3 ≤ 1540) (v1 : Int32) : wpX_packetState (fun r => wpY_packetState (fun r' => r' = r ∧ i_Rel (k + 3) u v) v v1) u v1 := by
  obtain ⟨M, N, C, D, A, sw, cw, ld, lg, nw, ls, sp, vi, kc, ac, wr, hg, sb, mk, kx, st, ss, fo, fl, cb, cf, co, rh, ax, go, bl, bh, dp, an, xl, xh, xc, ky, ay, yl, yh, ya, yc, rfl, rfl, hI⟩ := I
  obtain ⟨⟨hM1, hM8, hN, hC, hD, hA⟩, hlg, hwr, hco, hrh, hcf, hgo, hF, hdp, hbl, hbh, han, hxl, hxh, hkx, hax, hK, hR⟩ := id hI
  rcases qa_ix v1 (n := N) (by omega) with ⟨h0, hm⟩ | ⟨h0, h1, h2, hm⟩ | ⟨j, hj, rfl⟩
  · exact br_t h0 (br_t rfl (br_t h0 ⟨rfl, qr_mk hI⟩))
  · exact br_f h0 (br_t h1 (br_t rfl (br_f h0 (br_f h2 ⟨rfl, qr_mk hI⟩))))
  · have h0 := nI_pos (n := j) (by omega)
    have hi : vp_in (nI j) 64 := vp_in_nI (by omega) (by omega)
    exact br_f h0 (br_f (nI_ge hj (by omega)) (br_f qa_10 ⟨hi, br_f h0 (br_t (nI_lt hj (by omega)) ⟨hi, ⟨rfl, qr_mk hI⟩⟩)⟩))
theorem i_vc_received {k : Nat} {u : SX} {v : SY} (I : i_Rel k u v) (hk : k + 3 ≤ 1540) (v1 : Int32) : wpX_received (fun r => wpY_received (fun r' => r' = r ∧ i_Rel (k + 3) u v) v v1) u v1 := by
  obtain ⟨M, N, C, D, A, sw, cw, ld, lg, nw, ls, sp, vi, kc, ac, wr, hg, sb, mk, kx, st, ss, fo, fl, cb, cf, co, rh, ax, go, bl, bh, dp, an, xl, xh, xc, ky, ay, yl, yh, ya, yc, rfl, rfl, hI⟩ := I
  obtain ⟨⟨hM1, hM8, hN, hC, hD, hA⟩, hlg, hwr, hco, hrh, hcf, hgo, hF, hdp, hbl, hbh, han, hxl, hxh, hkx, hax, hK, hR⟩ := id hI
  rcases qa_ix v1 (n := 64) (by omega) with ⟨h0, hm⟩ | ⟨h0, h1, h2, hm⟩ | ⟨j, hj, rfl⟩
  · exact br_t h0 (br_t h0 ⟨rfl, qr_mk hI⟩)
  · exact br_f h0 (br_t h1 (br_f h0 (br_f (hm 63 (by omega)).2.1 ⟨rfl, qr_mk hI⟩)))
  · have h0 := nI_pos (n := j) (by omega)
    have hi : vp_in (nI j) 64 := vp_in_nI (by omega) (by omega)
    have h63 : nI j ≤ 63 := (qa_le_63 (by omega)).mpr (by omega)
    have hl : ¬ 64 ≤ nI j := nI_ge (b := 64) hj (by omega)
    have hg := qa_B1 hgo (nI j).toNatClampNeg
    have hn := qa_nb hg
    rcases hg with e | e
    · exact br_f h0 (br_f hl ⟨hi, br_t e (br_f h0 (br_t h63 ⟨hi, hn, e, qr_mk hI⟩))⟩)
    · exact br_f h0 (br_f hl ⟨hi, br_f (by rw [e]; exact qa_10) (br_f h0 (br_t h63 ⟨hi, hn, e, qr_mk hI⟩))⟩)
theorem i_vc_frame {k : Nat} {u : SX} {v : SY} (I : i_Rel k u v) (hk : k + 3 ≤ 1540) (v1 : Int32) (v2 : Int32) : wpX_frame (fun r => wpY_frame (fun r' => r' = r ∧ i_Rel (k + 3) u v) v v1 v2) u v1 v2 := by
  obtain ⟨M, N, C, D, A, sw, cw, ld, lg, nw, ls, sp, vi, kc, ac, wr, hg, sb, mk, kx, st, ss, fo, fl, cb, cf, co, rh, ax, go, bl, bh, dp, an, xl, xh, xc, ky, ay, yl, yh, ya, yc, rfl, rfl, hI⟩ := I
  obtain ⟨⟨hM1, hM8, hN, hC, hD, hA⟩, hlg, hwr, hco, hrh, hcf, hgo, hF, hdp, hbl, hbh, han, hxl, hxh, hkx, hax, hK, hR⟩ := id hI
  rcases qa_ix v1 (n := N) (by omega) with ⟨h0, hm⟩ | ⟨h0, h1, h2, hm⟩ | ⟨j, hj, rfl⟩
  · exact br_t h0 (br_t rfl (br_t h0 ⟨rfl, qr_mk hI⟩))
  · exact br_f h0 (br_t h1 (br_t rfl (br_f h0 (br_t h1 ⟨rfl, qr_mk hI⟩))))
  · have h0 := nI_pos (n := j) (by omega)
    have hl : ¬ nI N ≤ nI j := nI_ge hj (by omega)
    rcases qa_ix v2 (n := 4) (by omega) with ⟨g0, hm⟩ | ⟨g0, g1, g2, hm⟩ | ⟨s, hs, rfl⟩
    · exact br_f h0 (br_f hl (br_f qa_10 (br_t g0 (br_t rfl (br_f h0 (br_f hl (br_t g0 ⟨rfl, qr_mk hI⟩)))))))
    · exact br_f h0 (br_f hl (br_f qa_10 (br_f g0 (br_t g1 (br_t rfl (br_f h0 (br_f hl (br_f g0 (br_f (hm 3 (by omega)).2.1 ⟨rfl, qr_mk hI⟩)))))))))
    · have g0 := nI_pos (n := s) (by omega)
      have gl : ¬ 4 ≤ nI s := nI_ge (b := 4) hs (by omega)
      have g3 : nI s ≤ 3 := (qa_le_3 (by omega)).mpr (by omega)
      have hi : vp_in (nI j * 4 + nI s) 256 := ql_ix4 hs (by omega)
      by_cases z : fl (nI j * 4 + nI s).toNatClampNeg = 0
      · exact br_f h0 (br_f hl (br_f qa_10 (br_f g0 (br_f gl (br_f qa_10 (nm_e ⟨hi, br_t z (br_f h0 (br_f hl (br_f g0 (br_t g3 ⟨hi, br_t z ⟨rfl, qr_mk hI⟩⟩))))⟩))))))
      · exact br_f h0 (br_f hl (br_f qa_10 (br_f g0 (br_f gl (br_f qa_10 (nm_e ⟨hi, br_f z ⟨hi, hi, br_f h0 (br_f hl (br_f g0 (br_t g3 ⟨hi, br_f z ⟨hi, hi, ⟨rfl, qr_mk hI⟩⟩⟩)))⟩⟩))))))
theorem i_vc_ackRange {k : Nat} {u : SX} {v : SY} (I : i_Rel k u v) (hk : k + 3 ≤ 1540) (v1 : Int32) (v2 : Int32) : wpX_ackRange (fun r => wpY_ackRange (fun r' => r' = r ∧ i_Rel (k + 3) u v) v v1 (lw_bz v2)) u v1 (lw_bz v2) := by
  obtain ⟨M, N, C, D, A, sw, cw, ld, lg, nw, ls, sp, vi, kc, ac, wr, hg, sb, mk, kx, st, ss, fo, fl, cb, cf, co, rh, ax, go, bl, bh, dp, an, xl, xh, xc, ky, ay, yl, yh, ya, yc, rfl, rfl, hI⟩ := I
  obtain ⟨⟨hM1, hM8, hN, hC, hD, hA⟩, hlg, hwr, hco, hrh, hcf, hgo, hF, hdp, hbl, hbh, han, hxl, hxh, hkx, hax, hK, hR⟩ := id hI
  rcases qa_ix v1 (n := C) (by omega) with ⟨h0, hm⟩ | ⟨h0, h1, h2, hm⟩ | ⟨j, hj, rfl⟩
  · exact br_t h0 (br_t h0 ⟨rfl, qr_mk hI⟩)
  · exact br_f h0 (br_f h2 (br_f h0 (br_f h2 ⟨rfl, qr_mk hI⟩)))
  · have h0 := nI_pos (n := j) (by omega)
    have hl : nI j < nI C := nI_lt hj (by omega)
    have hi : vp_in (nI j) 4 := vp_in_nI (by omega) (by omega)
    by_cases z : lw_bz v2 = 0
    · exact br_f h0 (br_t hl (br_t z ⟨hi, br_f h0 (br_t hl (br_t z ⟨hi, ⟨rfl, qr_mk hI⟩⟩))⟩))
    · exact br_f h0 (br_t hl (br_f z ⟨hi, br_f h0 (br_t hl (br_f z ⟨hi, ⟨rfl, qr_mk hI⟩⟩))⟩))
theorem i_vc_channelPn {k : Nat} {u : SX} {v : SY} (I : i_Rel k u v) (hk : k + 3 ≤ 1540) (v1 : Int32) : wpX_channelPn (fun r => wpY_channelPn (fun r' => r' = r ∧ i_Rel (k + 3) u v) v v1) u v1 := by
  obtain ⟨M, N, C, D, A, sw, cw, ld, lg, nw, ls, sp, vi, kc, ac, wr, hg, sb, mk, kx, st, ss, fo, fl, cb, cf, co, rh, ax, go, bl, bh, dp, an, xl, xh, xc, ky, ay, yl, yh, ya, yc, rfl, rfl, hI⟩ := I
  obtain ⟨⟨hM1, hM8, hN, hC, hD, hA⟩, hlg, hwr, hco, hrh, hcf, hgo, hF, hdp, hbl, hbh, han, hxl, hxh, hkx, hax, hK, hR⟩ := id hI
  rcases qa_ix v1 (n := D) (by omega) with ⟨h0, hm⟩ | ⟨h0, h1, h2, hm⟩ | ⟨j, hj, rfl⟩
  · exact br_t rfl (br_t h0 (br_t rfl (br_t h0 ⟨rfl, qr_mk hI⟩)))
  · exact br_t rfl (br_f h0 (br_t h1 (br_t rfl (br_f h0 (br_f h2 ⟨rfl, qr_mk hI⟩)))))
  · have h0 := nI_pos (n := j) (by omega)
    have hi : vp_in (nI j) 8 := vp_in_nI (by omega) (by omega)
    exact br_t rfl (br_f h0 (br_f (nI_ge hj (by omega)) (br_f qa_10 ⟨hi, br_f h0 (br_t (nI_lt hj (by omega)) ⟨hi, ⟨rfl, qr_mk hI⟩⟩)⟩)))
theorem i_vc_stats {k : Nat} {u : SX} {v : SY} (I : i_Rel k u v) (hk : k + 3 ≤ 1540) (v1 : Int32) : wpX_stats (fun r => wpY_stats (fun r' => r' = r ∧ i_Rel (k + 3) u v) v v1) u v1 := by
  obtain ⟨M, N, C, D, A, sw, cw, ld, lg, nw, ls, sp, vi, kc, ac, wr, hg, sb, mk, kx, st, ss, fo, fl, cb, cf, co, rh, ax, go, bl, bh, dp, an, xl, xh, xc, ky, ay, yl, yh, ya, yc, rfl, rfl, hI⟩ := I
  obtain ⟨⟨hM1, hM8, hN, hC, hD, hA⟩, hlg, hwr, hco, hrh, hcf, hgo, hF, hdp, hbl, hbh, han, hxl, hxh, hkx, hax, hK, hR⟩ := id hI
  rcases qa_ix v1 (n := 9) (by omega) with ⟨h0, hm⟩ | ⟨h0, h1, h2, hm⟩ | ⟨j, hj, rfl⟩
  · exact br_t h0 (br_f (hm 0 (by omega)) (br_f (hm 1 (by omega)) (br_f (hm 2 (by omega)) (br_f (hm 3 (by omega)) (br_f (hm 4 (by omega)) (br_f (hm 5 (by omega)) (br_f (hm 6 (by omega)) (br_f (hm 7 (by omega)) (br_f (hm 8 (by omega)) ⟨rfl, qr_mk hI⟩)))))))))
  · exact br_f h0 (br_t (hm 8 (by omega)).1 (br_f (hm 0 (by omega)).2.2 (br_f (hm 1 (by omega)).2.2 (br_f (hm 2 (by omega)).2.2 (br_f (hm 3 (by omega)).2.2 (br_f (hm 4 (by omega)).2.2 (br_f (hm 5 (by omega)).2.2 (br_f (hm 6 (by omega)).2.2 (br_f (hm 7 (by omega)).2.2 (br_f (hm 8 (by omega)).2.2 ⟨rfl, qr_mk hI⟩))))))))))
  · have h0 := nI_pos (n := j) (by omega)
    have h8 : ¬ 8 < nI j := fun z => absurd ((qa_gt_8 (by omega)).mp z) (by omega)
    have hc : j = 0 ∨ j = 1 ∨ j = 2 ∨ j = 3 ∨ j = 4 ∨ j = 5 ∨ j = 6 ∨ j = 7 ∨ j = 8 := by omega
    rcases hc with rfl | rfl | rfl | rfl | rfl | rfl | rfl | rfl | rfl
    · exact br_f h0 (br_f h8 (br_t rfl (br_t rfl ⟨rfl, qr_mk hI⟩)))
    · exact br_f h0 (br_f h8 (br_f (by decide) (br_t rfl (br_f (by decide) (br_t rfl ⟨rfl, qr_mk hI⟩)))))
    · exact br_f h0 (br_f h8 (br_f (by decide) (br_f (by decide) (br_t rfl (br_f (by decide) (br_f (by decide) (br_t rfl ⟨rfl, qr_mk hI⟩)))))))
    · exact br_f h0 (br_f h8 (br_f (by decide) (br_f (by decide) (br_f (by decide) (br_t rfl (br_f (by decide) (br_f (by decide) (br_f (by decide) (br_t rfl ⟨rfl, qr_mk hI⟩)))))))))
    · exact br_f h0 (br_f h8 (br_f (by decide) (br_f (by decide) (br_f (by decide) (br_f (by decide) (br_t rfl (br_f (by decide) (br_f (by decide) (br_f (by decide) (br_f (by decide) (br_t rfl ⟨rfl, qr_mk hI⟩)))))))))))
    · exact br_f h0 (br_f h8 (br_f (by decide) (br_f (by decide) (br_f (by decide) (br_f (by decide) (br_f (by decide) (br_t rfl (br_f (by decide) (br_f (by decide) (br_f (by decide) (br_f (by decide) (br_f (by decide) (br_t rfl ⟨rfl, qr_mk hI⟩)))))))))))))
    · exact br_f h0 (br_f h8 (br_f (by decide) (br_f (by decide) (br_f (by decide) (br_f (by decide) (br_f (by decide) (br_f (by decide) (br_t rfl (br_f (by decide) (br_f (by decide) (br_f (by decide) (br_f (by decide) (br_f (by decide) (br_f (by decide) (br_t rfl ⟨rfl, qr_mk hI⟩)))))))))))))))
    · exact br_f h0 (br_f h8 (br_f (by decide) (br_f (by decide) (br_f (by decide) (br_f (by decide) (br_f (by decide) (br_f (by decide) (br_f (by decide) (br_t rfl (br_f (by decide) (br_f (by decide) (br_f (by decide) (br_f (by decide) (br_f (by decide) (br_f (by decide) (br_f (by decide) (br_t rfl ⟨rfl, qr_mk hI⟩)))))))))))))))))
    · exact br_f h0 (br_f h8 (br_f (by decide) (br_f (by decide) (br_f (by decide) (br_f (by decide) (br_f (by decide) (br_f (by decide) (br_f (by decide) (br_f (by decide) (br_t rfl (br_f (by decide) (br_f (by decide) (br_f (by decide) (br_f (by decide) (br_f (by decide) (br_f (by decide) (br_f (by decide) (br_f (by decide) (br_t rfl ⟨rfl, qr_mk hI⟩)))))))))))))))))))
theorem i_vc_credit {k : Nat} {u : SX} {v : SY} (I : i_Rel k u v) (hk : k + 3 ≤ 1540) (v1 : Int32) : wpX_credit (fun r => wpY_credit (fun r' => r' = r ∧ i_Rel (k + 3) u v) v v1) u v1 := by
  obtain ⟨M, N, C, D, A, sw, cw, ld, lg, nw, ls, sp, vi, kc, ac, wr, hg, sb, mk, kx, st, ss, fo, fl, cb, cf, co, rh, ax, go, bl, bh, dp, an, xl, xh, xc, ky, ay, yl, yh, ya, yc, rfl, rfl, hI⟩ := I
  obtain ⟨⟨hM1, hM8, hN, hC, hD, hA⟩, hlg, hwr, hco, hrh, hcf, hgo, hF, hdp, hbl, hbh, han, hxl, hxh, hkx, hax, hK, hR⟩ := id hI
  rcases qa_ix v1 (n := 10) (by omega) with ⟨h0, hm⟩ | ⟨h0, h1, h2, hm⟩ | ⟨j, hj, rfl⟩
  · have h5 : v1 < 5 := Int32.lt_of_lt_of_le h0 (by decide)
    exact br_t h0 (br_t h0 (br_f (hm 4 (by omega)) (br_t h5 (br_f (hm 9 (by omega)) ⟨rfl, qr_mk hI⟩))))
  · have h8 : 8 < v1 := (hm 8 (by omega)).1
    have h5 : ¬ v1 < 5 := Int32.not_lt.mpr (Int32.le_of_lt (hm 5 (by omega)).1)
    exact br_f h0 (br_f h2 (br_f h0 (br_t (hm 3 (by omega)).1 (br_f (hm 4 (by omega)).2.2 (br_f h5 (br_t h8 (br_f (hm 9 (by omega)).2.2 ⟨rfl, qr_mk hI⟩)))))))
  · have h0 := nI_pos (n := j) (by omega)
    have hc : j = 0 ∨ j = 1 ∨ j = 2 ∨ j = 3 ∨ j = 4 ∨ j = 5 ∨ j = 6 ∨ j = 7 ∨ j = 8 ∨ j = 9 := by omega
    rcases hc with rfl | rfl | rfl | rfl | rfl | rfl | rfl | rfl | rfl | rfl
    · exact br_f h0 (br_t (by decide) (br_f (by decide) ⟨vp_in_nI (by omega) (by omega), br_f h0 (br_f (by decide) ⟨vp_in_nI (by omega) (by omega), (hkx.1 0 (by omega)).symm, qr_mk hI⟩)⟩))
    · exact br_f h0 (br_t (by decide) (br_f (by decide) ⟨vp_in_nI (by omega) (by omega), br_f h0 (br_f (by decide) ⟨vp_in_nI (by omega) (by omega), (hkx.1 1 (by omega)).symm, qr_mk hI⟩)⟩))
    · exact br_f h0 (br_t (by decide) (br_f (by decide) ⟨vp_in_nI (by omega) (by omega), br_f h0 (br_f (by decide) ⟨vp_in_nI (by omega) (by omega), (hkx.1 2 (by omega)).symm, qr_mk hI⟩)⟩))
    · exact br_f h0 (br_t (by decide) (br_f (by decide) ⟨vp_in_nI (by omega) (by omega), br_f h0 (br_f (by decide) ⟨vp_in_nI (by omega) (by omega), (hkx.1 3 (by omega)).symm, qr_mk hI⟩)⟩))
    · exact br_f h0 (br_t (by decide) (br_f (by decide) ⟨vp_in_nI (by omega) (by omega), br_f h0 (br_t (by decide) (br_t rfl ⟨hkx.2.symm, qr_mk hI⟩))⟩))
    · exact br_f h0 (br_t (by decide) (br_t (by decide) ⟨vp_in_iff.mpr (by decide), br_f h0 (br_t (by decide) (br_f (by decide) (br_f (by decide) (br_f (by decide) ⟨vp_in_iff.mpr (by decide), (hax.1 0 (by omega)).symm, qr_mk hI⟩))))⟩))
    · exact br_f h0 (br_t (by decide) (br_t (by decide) ⟨vp_in_iff.mpr (by decide), br_f h0 (br_t (by decide) (br_f (by decide) (br_f (by decide) (br_f (by decide) ⟨vp_in_iff.mpr (by decide), (hax.1 1 (by omega)).symm, qr_mk hI⟩))))⟩))
    · exact br_f h0 (br_t (by decide) (br_t (by decide) ⟨vp_in_iff.mpr (by decide), br_f h0 (br_t (by decide) (br_f (by decide) (br_f (by decide) (br_f (by decide) ⟨vp_in_iff.mpr (by decide), (hax.1 2 (by omega)).symm, qr_mk hI⟩))))⟩))
    · exact br_f h0 (br_t (by decide) (br_t (by decide) ⟨vp_in_iff.mpr (by decide), br_f h0 (br_t (by decide) (br_f (by decide) (br_f (by decide) (br_f (by decide) ⟨vp_in_iff.mpr (by decide), (hax.1 3 (by omega)).symm, qr_mk hI⟩))))⟩))
    · exact br_f h0 (br_t (by decide) (br_t (by decide) ⟨vp_in_iff.mpr (by decide), br_f h0 (br_t (by decide) (br_f (by decide) (br_f (by decide) (br_t (by decide) (br_t rfl ⟨hax.2.symm, qr_mk hI⟩)))))⟩))
theorem i_vc_streamInfo {k : Nat} {u : SX} {v : SY} (I : i_Rel k u v) (hk : k + 3 ≤ 1540) (v1 : Int32) (v2 : Int32) : wpX_streamInfo (fun r => wpY_streamInfo (fun r' => r' = r ∧ i_Rel (k + 3) u v) v v1 v2) u v1 v2 := by
  obtain ⟨M, N, C, D, A, sw, cw, ld, lg, nw, ls, sp, vi, kc, ac, wr, hg, sb, mk, kx, st, ss, fo, fl, cb, cf, co, rh, ax, go, bl, bh, dp, an, xl, xh, xc, ky, ay, yl, yh, ya, yc, rfl, rfl, hI⟩ := I
  obtain ⟨⟨hM1, hM8, hN, hC, hD, hA⟩, hlg, hwr, hco, hrh, hcf, hgo, hF, hdp, hbl, hbh, han, hxl, hxh, hkx, hax, hK, hR⟩ := id hI
  rcases qa_ix v1 (n := 4) (by omega) with ⟨g0, gm⟩ | ⟨g0, g1, g2, gm⟩ | ⟨s, hs, rfl⟩
  · exact br_t g0 (br_t rfl (br_t g0 ⟨rfl, qr_mk hI⟩))
  · exact br_f g0 (br_t g1 (br_t rfl (br_f g0 (br_f (gm 3 (by omega)).2.1 ⟨rfl, qr_mk hI⟩))))
  · have g0 := nI_pos (n := s) (by omega)
    have gl : ¬ 4 ≤ nI s := nI_ge (b := 4) hs (by omega)
    have g3 : nI s ≤ 3 := (qa_le_3 (by omega)).mpr (by omega)
    have h4 : vp_in (nI s) 4 := vp_in_nI hs (by omega)
    rcases qa_ix v2 (n := 8) (by omega) with ⟨h0, hm⟩ | ⟨h0, h1, h2, hm⟩ | ⟨j, hj, rfl⟩
    · exact br_f g0 (br_f gl (br_f qa_10 (br_t h0 (br_f g0 (br_t g3 (br_f (hm 0 (by omega)) (br_f (hm 1 (by omega)) (br_f (hm 2 (by omega)) (br_f (hm 3 (by omega)) (br_f (hm 4 (by omega)) (br_f (hm 5 (by omega)) (br_f (hm 6 (by omega)) (br_f (hm 7 (by omega)) ⟨rfl, qr_mk hI⟩)))))))))))))
    · exact br_f g0 (br_f gl (br_f qa_10 (br_f h0 (br_t (hm 7 (by omega)).1 (br_f g0 (br_t g3 (br_f (hm 0 (by omega)).2.2 (br_f (hm 1 (by omega)).2.2 (br_f (hm 2 (by omega)).2.2 (br_f (hm 3 (by omega)).2.2 (br_f (hm 4 (by omega)).2.2 (br_f (hm 5 (by omega)).2.2 (br_f (hm 6 (by omega)).2.2 (br_f (hm 7 (by omega)).2.2 ⟨rfl, qr_mk hI⟩))))))))))))))
    · have h0 := nI_pos (n := j) (by omega)
      have h7 : ¬ 7 < nI j := fun z => absurd ((qa_gt_7 (by omega)).mp z) (by omega)
      have hc : j = 0 ∨ j = 1 ∨ j = 2 ∨ j = 3 ∨ j = 4 ∨ j = 5 ∨ j = 6 ∨ j = 7 := by omega
      rcases hc with rfl | rfl | rfl | rfl | rfl | rfl | rfl | rfl
      · exact br_f g0 (br_f gl (br_f qa_10 (br_f h0 (br_f h7 (br_t rfl ⟨h4, (br_f g0 (br_t g3 (br_t rfl ⟨h4, ⟨rfl, qr_mk hI⟩⟩)))⟩)))))
      · exact br_f g0 (br_f gl (br_f qa_10 (br_f h0 (br_f h7 (br_f (by decide) (br_t rfl ⟨h4, (br_f g0 (br_t g3 (br_f (by decide) (br_t rfl ⟨h4, ⟨rfl, qr_mk hI⟩⟩))))⟩))))))
      · obtain ⟨r, hX, hY⟩ := ql_cmM (sw := sw) (cw := cw) (mp := nI M) (ld := ld) (nx := nI N) (lg := lg) (nw := nw) (ls := ls) (sp := sp) (bc := nI C) (vi := vi) (dc := nI D) (ak := nI A) (kc := kc) (ac := ac) (wr := wr) (hg := hg) (sb := sb) (mk := mk) (kx := kx) (st := st) (ss := ss) (fo := fo) (fl := fl) (cb := cb) (cf := cf) (co := co) (rh := rh) (ax := ax) (go := go) (bl := bl) (bh := bh) (dp := dp) (an := an) (xl := xl) (xh := xh) (xc := xc) (ky := ky) (ay := ay) (yl := yl) (yh := yh) (ya := ya) (yc := yc) hs hwr 1
        exact br_f g0 (br_f gl (br_f qa_10 (br_f h0 (br_f h7 (br_f (by decide) (br_f (by decide) (br_t rfl (hX _ (br_f g0 (br_t g3 (br_f (by decide) (br_f (by decide) (br_t rfl (hY _ ⟨rfl, qr_mk hI⟩))))))))))))))
      · obtain ⟨r, hX, hY⟩ := ql_cmM (sw := sw) (cw := cw) (mp := nI M) (ld := ld) (nx := nI N) (lg := lg) (nw := nw) (ls := ls) (sp := sp) (bc := nI C) (vi := vi) (dc := nI D) (ak := nI A) (kc := kc) (ac := ac) (wr := wr) (hg := hg) (sb := sb) (mk := mk) (kx := kx) (st := st) (ss := ss) (fo := fo) (fl := fl) (cb := cb) (cf := cf) (co := co) (rh := rh) (ax := ax) (go := go) (bl := bl) (bh := bh) (dp := dp) (an := an) (xl := xl) (xh := xh) (xc := xc) (ky := ky) (ay := ay) (yl := yl) (yh := yh) (ya := ya) (yc := yc) hs hwr 2
        exact br_f g0 (br_f gl (br_f qa_10 (br_f h0 (br_f h7 (br_f (by decide) (br_f (by decide) (br_f (by decide) (br_t rfl (hX _ (br_f g0 (br_t g3 (br_f (by decide) (br_f (by decide) (br_f (by decide) (br_t rfl (hY _ ⟨rfl, qr_mk hI⟩))))))))))))))))
      · obtain ⟨r, hX, hY⟩ := ql_cmM (sw := sw) (cw := cw) (mp := nI M) (ld := ld) (nx := nI N) (lg := lg) (nw := nw) (ls := ls) (sp := sp) (bc := nI C) (vi := vi) (dc := nI D) (ak := nI A) (kc := kc) (ac := ac) (wr := wr) (hg := hg) (sb := sb) (mk := mk) (kx := kx) (st := st) (ss := ss) (fo := fo) (fl := fl) (cb := cb) (cf := cf) (co := co) (rh := rh) (ax := ax) (go := go) (bl := bl) (bh := bh) (dp := dp) (an := an) (xl := xl) (xh := xh) (xc := xc) (ky := ky) (ay := ay) (yl := yl) (yh := yh) (ya := ya) (yc := yc) hs hwr 3
        exact br_f g0 (br_f gl (br_f qa_10 (br_f h0 (br_f h7 (br_f (by decide) (br_f (by decide) (br_f (by decide) (br_f (by decide) (br_t rfl (hX _ (br_f g0 (br_t g3 (br_f (by decide) (br_f (by decide) (br_f (by decide) (br_f (by decide) (br_t rfl (hY _ ⟨rfl, qr_mk hI⟩))))))))))))))))))
      · exact br_f g0 (br_f gl (br_f qa_10 (br_f h0 (br_f h7 (br_f (by decide) (br_f (by decide) (br_f (by decide) (br_f (by decide) (br_f (by decide) (br_t rfl ⟨h4, (br_f g0 (br_t g3 (br_f (by decide) (br_f (by decide) (br_f (by decide) (br_f (by decide) (br_f (by decide) (br_t rfl ⟨h4, ⟨rfl, qr_mk hI⟩⟩))))))))⟩))))))))))
      · obtain ⟨r, hX, hY⟩ := ql_cfM (sw := sw) (cw := cw) (mp := nI M) (ld := ld) (nx := nI N) (lg := lg) (nw := nw) (ls := ls) (sp := sp) (bc := nI C) (vi := vi) (dc := nI D) (ak := nI A) (kc := kc) (ac := ac) (wr := wr) (hg := hg) (sb := sb) (mk := mk) (kx := kx) (st := st) (ss := ss) (fo := fo) (fl := fl) (cb := cb) (cf := cf) (co := co) (rh := rh) (ax := ax) (go := go) (bl := bl) (bh := bh) (dp := dp) (an := an) (xl := xl) (xh := xh) (xc := xc) (ky := ky) (ay := ay) (yl := yl) (yh := yh) (ya := ya) (yc := yc) hs
        exact br_f g0 (br_f gl (br_f qa_10 (br_f h0 (br_f h7 (br_f (by decide) (br_f (by decide) (br_f (by decide) (br_f (by decide) (br_f (by decide) (br_f (by decide) (br_t rfl (hX _ (br_f g0 (br_t g3 (br_f (by decide) (br_f (by decide) (br_f (by decide) (br_f (by decide) (br_f (by decide) (br_f (by decide) (br_t rfl (hY _ ⟨rfl, qr_mk hI⟩))))))))))))))))))))))
      · exact br_f g0 (br_f gl (br_f qa_10 (br_f h0 (br_f h7 (br_f (by decide) (br_f (by decide) (br_f (by decide) (br_f (by decide) (br_f (by decide) (br_f (by decide) (br_f (by decide) (br_t rfl ⟨h4, (br_f g0 (br_t g3 (br_f (by decide) (br_f (by decide) (br_f (by decide) (br_f (by decide) (br_f (by decide) (br_f (by decide) (br_f (by decide) (br_t rfl ⟨h4, ⟨rfl, qr_mk hI⟩⟩))))))))))⟩))))))))))))
end QL
