section QW
variable {sw cw mp ld nx lg nw ls sp bc vi dc ak kc ac : Int32} {wr hg sb mk kx st ss fo fl cb cf co rh ax go bl bh dp an xl xh xc ky ay yl yh ya yc : Nat → Int32}
theorem i_vc_write {k : Nat} {u : SX} {v : SY} (I : i_Rel k u v) (hk : k + 3 ≤ 1540) (v1 : Int32) (v2 : Int32) : wpX_write (fun r u' => wpY_write (fun r' v' => r' = r ∧ i_Rel (k + 3) u' v') v v1 v2) u v1 v2 := by
  obtain ⟨M, N, C, D, A, sw, cw, ld, lg, nw, ls, sp, vi, kc, ac, wr, hg, sb, mk, kx, st, ss, fo, fl, cb, cf, co, rh, ax, go, bl, bh, dp, an, xl, xh, xc, ky, ay, yl, yh, ya, yc, rfl, rfl, hI⟩ := I
  obtain ⟨⟨hM1, hM8, hN, hC, hD, hA⟩, hlg, hwr, hco, hrh, hcf, hgo, hF, hdp, hbl, hbh, han, hxl, hxh, hkx, hax, hK, hR⟩ := id hI
  rcases qa_ix v1 (n := 4) (by omega) with ⟨g0, gm⟩ | ⟨g0, g1, g2, gm⟩ | ⟨s, hs, rfl⟩
  · exact br_t g0 (br_t rfl (br_t g0 ⟨rfl, qr_mk hI⟩))
  · exact br_f g0 (br_t g1 (br_t rfl (br_f g0 (br_t (gm 3 (by omega)).1 ⟨rfl, qr_mk hI⟩))))
  · have g0 := nI_pos (n := s) (by omega)
    have gl : ¬ 4 ≤ nI s := nI_ge (b := 4) hs (by omega)
    have g3 : ¬ 3 < nI s := fun z => absurd ((qa_gt_3 (by omega)).mp z) (by omega)
    have h4 : vp_in (nI s) 4 := vp_in_nI hs (by omega)
    obtain ⟨w, hw, ew⟩ := hwr (nI s).toNatClampNeg
    by_cases z : wr (nI s).toNatClampNeg = 32
    · exact br_f g0 (br_f gl (br_f qa_10 ⟨h4, br_t z (br_f g0 (br_f g3 ⟨h4, br_t z ⟨rfl, qr_mk hI⟩⟩))⟩))
    · have hw2 : w < 32 := by
        rcases Nat.lt_or_ge w 32 with l | l
        · exact l
        · obtain rfl : w = 32 := by omega
          exact absurd ew z
      have hx : vp_in (nI s * 32 + wr (nI s).toNatClampNeg) 128 := by rw [ew]; exact ql_ix32 hs hw2
      have hwr' : qa_B (upd wr (nI s).toNatClampNeg (wr (nI s).toNatClampNeg + 1)) 32 := qa_Bx hwr ⟨w + 1, by omega, by rw [ew, nI_1]⟩
      exact br_f g0 (br_f gl (br_f qa_10 ⟨h4, br_f z ⟨h4, nm_e ⟨hx, nm_e ⟨hx, nm_e ⟨h4, h4, nm_e (br_f g0 (br_f g3 ⟨h4, br_f z ⟨h4, nm_e ⟨hx, nm_e ⟨hx, nm_e ⟨h4, h4, nm_e ⟨rfl, qr_mk ⟨⟨hM1, hM8, hN, hC, hD, hA⟩, hlg, hwr', hco, hrh, hcf, hgo, hF, hdp, hbl, hbh, han, hxl, hxh, hkx, hax, hK, hR⟩⟩⟩⟩⟩⟩⟩))⟩⟩⟩⟩⟩))
theorem i_vc_read {k : Nat} {u : SX} {v : SY} (I : i_Rel k u v) (hk : k + 3 ≤ 1540) (v1 : Int32) : wpX_read (fun r u' => wpY_read (fun r' v' => r' = r ∧ i_Rel (k + 3) u' v') v v1) u v1 := by
  obtain ⟨M, N, C, D, A, sw, cw, ld, lg, nw, ls, sp, vi, kc, ac, wr, hg, sb, mk, kx, st, ss, fo, fl, cb, cf, co, rh, ax, go, bl, bh, dp, an, xl, xh, xc, ky, ay, yl, yh, ya, yc, rfl, rfl, hI⟩ := I
  obtain ⟨⟨hM1, hM8, hN, hC, hD, hA⟩, hlg, hwr, hco, hrh, hcf, hgo, hF, hdp, hbl, hbh, han, hxl, hxh, hkx, hax, hK, hR⟩ := id hI
  rcases qa_ix v1 (n := 4) (by omega) with ⟨g0, gm⟩ | ⟨g0, g1, g2, gm⟩ | ⟨s, hs, rfl⟩
  · exact br_t g0 (br_t rfl (br_t g0 ⟨rfl, qr_mk hI⟩))
  · exact br_f g0 (br_t g1 (br_t rfl (br_f g0 (br_f (gm 3 (by omega)).2.1 ⟨rfl, qr_mk hI⟩))))
  · have g0 := nI_pos (n := s) (by omega)
    have gl : ¬ 4 ≤ nI s := nI_ge (b := 4) hs (by omega)
    have g3 : nI s ≤ 3 := (qa_le_3 (by omega)).mpr (by omega)
    have h4 : vp_in (nI s) 4 := vp_in_nI hs (by omega)
    obtain ⟨w, hw, ew⟩ := hco (nI s).toNatClampNeg
    by_cases z : co (nI s).toNatClampNeg = 32
    · exact br_f g0 (br_f gl (br_f qa_10 ⟨h4, br_t z (br_f g0 (br_t g3 ⟨h4, br_t z ⟨rfl, qr_mk hI⟩⟩))⟩))
    · have hw2 : w < 32 := by
        rcases Nat.lt_or_ge w 32 with l | l
        · exact l
        · obtain rfl : w = 32 := by omega
          exact absurd ew z
      have hx : vp_in (nI s * 32 + co (nI s).toNatClampNeg) 128 := by rw [ew]; exact ql_ix32 hs hw2
      have hco' : qa_B (upd co (nI s).toNatClampNeg (co (nI s).toNatClampNeg + 1)) 32 := qa_Bx hco ⟨w + 1, by omega, by rw [ew, nI_1]⟩
      by_cases f : cf (nI s * 32 + co (nI s).toNatClampNeg).toNatClampNeg = 0
      · exact br_f g0 (br_f gl (br_f qa_10 ⟨h4, br_f z ⟨h4, nm_e ⟨hx, br_t f (br_f g0 (br_t g3 ⟨h4, br_f z ⟨h4, nm_e ⟨hx, br_t f ⟨rfl, qr_mk hI⟩⟩⟩⟩))⟩⟩⟩))
      · exact br_f g0 (br_f gl (br_f qa_10 ⟨h4, br_f z ⟨h4, nm_e ⟨hx, br_f f ⟨h4, h4, nm_e ⟨hx, br_f g0 (br_t g3 ⟨h4, br_f z ⟨h4, nm_e ⟨hx, br_f f ⟨h4, h4, nm_e ⟨hx, rfl, qr_mk ⟨⟨hM1, hM8, hN, hC, hD, hA⟩, hlg, hwr, hco', hrh, hcf, hgo, hF, hdp, hbl, hbh, han, hxl, hxh, hkx, hax, hK, hR⟩⟩⟩⟩⟩⟩)⟩⟩⟩⟩⟩))
end QW
