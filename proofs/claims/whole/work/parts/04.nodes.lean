theorem sd_sync (p : Int32) (c s o w : Nat → Int32) (ho : sd_K o) : sd_B (fun post => wpX_sync post (c, s, o, w) p) (fun post => wpY_sync post (c, s, o, w) p) := by
  by_cases hn : sd_N p
  · by_cases hw : w p.toNatClampNeg = 0
    · obtain ⟨r, s', o', ho', hX, hY⟩ := sd_mk p 1 sd_10 c s o w ho
      refine ⟨r, c, s', o', w, ho', fun post hp => ?_, fun post hp => ?_⟩
      · unfold wpX_sync
        dsimp only
        refine sd_xn hn ?_
        refine br_f sd_10 ⟨sd_in3 hn, br_t hw ?_⟩
        exact hX _ hp
      · unfold wpY_sync
        dsimp only
        refine sd_yr4 hn sd_L0 sd_L0 hw ?_
        refine br_t sd_00 ?_
        exact hY _ hp
    · refine ⟨-3, c, s, o, w, ho, fun post hp => ?_, fun post hp => ?_⟩
      · unfold wpX_sync
        dsimp only
        refine sd_xn hn ?_
        exact br_f sd_10 ⟨sd_in3 hn, br_f hw hp⟩
      · unfold wpY_sync
        dsimp only
        refine sd_yr3 hn sd_L0 sd_L0 hw ?_
        exact br_f sd_r3 hp
  · refine ⟨-1, c, s, o, w, ho, fun post hp => ?_, fun post hp => ?_⟩
    · unfold wpX_sync
      dsimp only
      refine sd_xnn hn ?_
      exact br_t rfl hp
    · unfold wpY_sync
      dsimp only
      refine sd_yr1 hn ?_
      exact br_f sd_r1 hp

theorem sd_cis (p q : Int32) (c s o w : Nat → Int32) (ho : sd_K o) : sd_B (fun post => wpX_crashInSync post (c, s, o, w) p q) (fun post => wpY_crashInSync post (c, s, o, w) p q) := by
  by_cases hn : sd_N p
  · by_cases hw : w p.toNatClampNeg = 0
    · by_cases hq : q = 0
      · subst hq
        obtain ⟨r, c', o', ho', hX, hY⟩ := sd_un p c s o (upd w p.toNatClampNeg (vp_nar .boolean 1)) ho
        refine ⟨r, c', s, o', upd w p.toNatClampNeg (vp_nar .boolean 1), ho', fun post hp => ?_, fun post hp => ?_⟩
        · unfold wpX_crashInSync
          dsimp only
          refine sd_xn hn ?_
          refine br_f sd_10 ⟨sd_in3 hn, br_t hw ⟨sd_in3 hn, nm_e (br_t rfl ?_)⟩⟩
          exact hX _ hp
        · unfold wpY_crashInSync
          dsimp only
          refine sd_yr4 hn sd_L0 sd_L0 hw ?_
          refine br_t sd_00 ⟨sd_in3 hn, nm_e ?_⟩
          exact hY _ hp
      · obtain ⟨r, s', o', ho', hX, hY⟩ := sd_mk p q hq c s o (upd w p.toNatClampNeg (vp_nar .boolean 1)) ho
        refine ⟨r, c, s', o', upd w p.toNatClampNeg (vp_nar .boolean 1), ho', fun post hp => ?_, fun post hp => ?_⟩
        · unfold wpX_crashInSync
          dsimp only
          refine sd_xn hn ?_
          refine br_f sd_10 ⟨sd_in3 hn, br_t hw ⟨sd_in3 hn, nm_e (br_f hq ?_)⟩⟩
          exact hX _ hp
        · unfold wpY_crashInSync
          dsimp only
          refine sd_yr4 hn sd_L0 sd_L0 hw ?_
          refine br_t sd_00 ⟨sd_in3 hn, nm_e ?_⟩
          exact hY _ hp
    · refine ⟨-3, c, s, o, w, ho, fun post hp => ?_, fun post hp => ?_⟩
      · unfold wpX_crashInSync
        dsimp only
        refine sd_xn hn ?_
        exact br_f sd_10 ⟨sd_in3 hn, br_f hw hp⟩
      · unfold wpY_crashInSync
        dsimp only
        refine sd_yr3 hn sd_L0 sd_L0 hw ?_
        exact br_f sd_r3 hp
  · refine ⟨-1, c, s, o, w, ho, fun post hp => ?_, fun post hp => ?_⟩
    · unfold wpX_crashInSync
      dsimp only
      refine sd_xnn hn ?_
      exact br_t rfl hp
    · unfold wpY_crashInSync
      dsimp only
      refine sd_yr1 hn ?_
      exact br_f sd_r1 hp

theorem sd_crash (p : Int32) (c s o w : Nat → Int32) (ho : sd_K o) : sd_B (fun post => wpX_crash post (c, s, o, w) p) (fun post => wpY_crash post (c, s, o, w) p) := by
  obtain ⟨r, c', s', o', w', ho', hX, hY⟩ := sd_cis p 0 c s o w ho
  refine ⟨r, c', s', o', w', ho', fun post hp => ?_, fun post hp => ?_⟩
  · unfold wpX_crash
    dsimp only
    refine hX _ ?_
    exact hp
  · unfold wpY_crash
    dsimp only
    refine hY _ ?_
    exact hp

theorem sd_restart (p : Int32) (c s o w : Nat → Int32) (ho : sd_K o) : sd_B (fun post => wpX_restart post (c, s, o, w) p) (fun post => wpY_restart post (c, s, o, w) p) := by
  by_cases hn : sd_N p
  · by_cases hw : w p.toNatClampNeg = 0
    · refine ⟨0, c, s, o, upd w p.toNatClampNeg (vp_nar .boolean 0), ho, fun post hp => ?_, fun post hp => ?_⟩
      · unfold wpX_restart
        dsimp only
        refine sd_xn hn ?_
        exact br_f sd_10 ⟨sd_in3 hn, br_t hw ⟨sd_in3 hn, nm_e hp⟩⟩
      · unfold wpY_restart
        dsimp only
        refine sd_yn hn ?_
        exact br_f sd_10 ⟨sd_in3 hn, br_t hw ⟨sd_in3 hn, nm_e hp⟩⟩
    · refine ⟨1, c, s, o, upd w p.toNatClampNeg (vp_nar .boolean 0), ho, fun post hp => ?_, fun post hp => ?_⟩
      · unfold wpX_restart
        dsimp only
        refine sd_xn hn ?_
        exact br_f sd_10 ⟨sd_in3 hn, br_f hw ⟨sd_in3 hn, nm_e hp⟩⟩
      · unfold wpY_restart
        dsimp only
        refine sd_yn hn ?_
        exact br_f sd_10 ⟨sd_in3 hn, br_f hw ⟨sd_in3 hn, nm_e hp⟩⟩
  · refine ⟨-1, c, s, o, w, ho, fun post hp => ?_, fun post hp => ?_⟩
    · unfold wpX_restart
      dsimp only
      refine sd_xnn hn ?_
      exact br_t rfl hp
    · unfold wpY_restart
      dsimp only
      refine sd_ynn hn ?_
      exact br_t rfl hp

theorem sd_cut : ∀ d j : Nat, j + d = 3 → ∀ (x : Int32) (c s o w : Nat → Int32), sd_K o →
    ∃ (r : Int32) (c' s' o' w' : Nat → Int32), sd_K o' ∧
    (∀ post : Int32 → SX → Prop, post r (c', s', o', w') → wX_powerCut_4 post (d + 1) x (nI j) c s o w) ∧
    (∀ post : Int32 → SY → Prop, post r (c', s', o', w') → wY_powerCut_4 post (d + 1) x (nI j) c s o w) := by
  intro d
  induction d with
  | zero =>
    intro j hj x c s o w ho
    have h := sd_ge3 (j := j) (by omega)
    exact ⟨x, c, s, o, w, ho, fun _ hp => br_t h hp, fun _ hp => br_t h hp⟩
  | succ d ih =>
    intro j hj x c s o w ho
    have h := sd_nge3 (j := j) (by omega)
    have hi : vp_in (nI j) 3 := vp_in_nI (by omega) (by decide)
    obtain ⟨r1, c1, o1, ho1, hX1, hY1⟩ := sd_un (nI j) c s o w ho
    obtain ⟨r, c', s', o', w', ho', hX, hY⟩ := ih (j + 1) (by omega) (x + r1) c1 s o1 (upd w (nI j).toNatClampNeg (vp_nar .boolean 0)) ho1
    refine ⟨r, c', s', o', w', ho', fun post hp => br_f h ?_, fun post hp => br_f h ?_⟩
    · refine hX1 _ ?_
      dsimp only
      exact nm_e ⟨hi, nm_e (nm_r (nI_1 j) (hX post hp))⟩
    · refine hY1 _ ?_
      dsimp only
      exact nm_e ⟨hi, nm_e (nm_r (nI_1 j) (hY post hp))⟩
theorem sd_power (c s o w : Nat → Int32) (ho : sd_K o) : sd_B (fun post => wpX_powerCut post (c, s, o, w)) (fun post => wpY_powerCut post (c, s, o, w)) := by
  obtain ⟨r, c', s', o', w', ho', hX, hY⟩ := sd_cut 3 0 rfl 0 c s o w ho
  rw [nI_0] at hX hY
  exact ⟨r, c', s', o', w', ho', fun post hp => ⟨4, hX post hp⟩, fun post hp => ⟨4, hY post hp⟩⟩
