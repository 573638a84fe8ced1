theorem i_vc0 (k0 : Int32) : wpX_init (fun u => wpY_init (fun v => i_Rel 1 u v) k0) k0 := by
  obtain ⟨o', ho', hX, hY⟩ := sd_init 16 0 rfl (fun _ => 0) (fun _ => Or.inr sd_n00)
  rw [nI_0] at hX hY
  exact ⟨17, hX _ _ _ _ ⟨17, hY _ _ _ _ ⟨rfl, ho'⟩⟩⟩
theorem i_vc_read {k : Nat} {u : SX} {v : SY} (I : i_Rel k u v) (hk : k + 4 ≤ 2049) (v1 : Int32) (v2 : Int32) : wpX_read (fun r u' => wpY_read (fun r' v' => r' = r ∧ i_Rel (k + 4) u' v') v v1 v2) u v1 v2 := by
  obtain ⟨c, s, o, w⟩ := u
  obtain ⟨e, ho⟩ := I
  subst e
  have h := sd_use k (sd_read v1 v2 c s o w ho)
  exact h
theorem i_vc_write {k : Nat} {u : SX} {v : SY} (I : i_Rel k u v) (hk : k + 4 ≤ 2049) (v1 : Int32) (v2 : Int32) (v3 : Int32) : wpX_write (fun r u' => wpY_write (fun r' v' => r' = r ∧ i_Rel (k + 4) u' v') v v1 v2 v3) u v1 v2 v3 := by
  obtain ⟨c, s, o, w⟩ := u
  obtain ⟨e, ho⟩ := I
  subst e
  have h := sd_use k (sd_write v1 v2 v3 c s o w ho)
  exact h
theorem i_vc_swap {k : Nat} {u : SX} {v : SY} (I : i_Rel k u v) (hk : k + 4 ≤ 2049) (v1 : Int32) (v2 : Int32) (v3 : Int32) : wpX_swap (fun r u' => wpY_swap (fun r' v' => r' = r ∧ i_Rel (k + 4) u' v') v v1 v2 v3) u v1 v2 v3 := by
  obtain ⟨c, s, o, w⟩ := u
  obtain ⟨e, ho⟩ := I
  subst e
  have h := sd_use k (sd_swap v1 v2 v3 c s o w ho)
  exact h
theorem i_vc_sync {k : Nat} {u : SX} {v : SY} (I : i_Rel k u v) (hk : k + 4 ≤ 2049) (v1 : Int32) : wpX_sync (fun r u' => wpY_sync (fun r' v' => r' = r ∧ i_Rel (k + 4) u' v') v v1) u v1 := by
  obtain ⟨c, s, o, w⟩ := u
  obtain ⟨e, ho⟩ := I
  subst e
  have h := sd_use k (sd_sync v1 c s o w ho)
  exact h
theorem i_vc_crash {k : Nat} {u : SX} {v : SY} (I : i_Rel k u v) (hk : k + 4 ≤ 2049) (v1 : Int32) : wpX_crash (fun r u' => wpY_crash (fun r' v' => r' = r ∧ i_Rel (k + 4) u' v') v v1) u v1 := by
  obtain ⟨c, s, o, w⟩ := u
  obtain ⟨e, ho⟩ := I
  subst e
  have h := sd_use k (sd_crash v1 c s o w ho)
  exact h
theorem i_vc_crashInSync {k : Nat} {u : SX} {v : SY} (I : i_Rel k u v) (hk : k + 4 ≤ 2049) (v1 : Int32) (v2 : Int32) : wpX_crashInSync (fun r u' => wpY_crashInSync (fun r' v' => r' = r ∧ i_Rel (k + 4) u' v') v v1 (lw_bz v2)) u v1 (lw_bz v2) := by
  obtain ⟨c, s, o, w⟩ := u
  obtain ⟨e, ho⟩ := I
  subst e
  have h := sd_use k (sd_cis v1 (lw_bz v2) c s o w ho)
  exact h
theorem i_vc_restart {k : Nat} {u : SX} {v : SY} (I : i_Rel k u v) (hk : k + 4 ≤ 2049) (v1 : Int32) : wpX_restart (fun r u' => wpY_restart (fun r' v' => r' = r ∧ i_Rel (k + 4) u' v') v v1) u v1 := by
  obtain ⟨c, s, o, w⟩ := u
  obtain ⟨e, ho⟩ := I
  subst e
  have h := sd_use k (sd_restart v1 c s o w ho)
  exact h
theorem i_vc_powerCut {k : Nat} {u : SX} {v : SY} (I : i_Rel k u v) (hk : k + 4 ≤ 2049) : wpX_powerCut (fun r u' => wpY_powerCut (fun r' v' => r' = r ∧ i_Rel (k + 4) u' v') v) u := by
  obtain ⟨c, s, o, w⟩ := u
  obtain ⟨e, ho⟩ := I
  subst e
  have h := sd_use k (sd_power c s o w ho)
  exact h
theorem i_vc_content {k : Nat} {u : SX} {v : SY} (I : i_Rel k u v) (hk : k + 4 ≤ 2049) (v1 : Int32) : wpX_content (fun r => wpY_content (fun r' => r' = r ∧ i_Rel (k + 4) u v) v v1) u v1 := by
  obtain ⟨c, s, o, w⟩ := u
  obtain ⟨e, ho⟩ := I
  subst e
  unfold wpX_content wpY_content
  dsimp only
  by_cases hb : sd_L v1
  · refine sd_xl hb ?_
    refine br_f sd_10 ⟨sd_in16 hb, ?_⟩
    refine sd_yl hb ?_
    exact br_f sd_10 ⟨sd_in16 hb, rfl, rfl, ho⟩
  · refine sd_xll hb ?_
    refine br_t rfl ?_
    refine sd_yll hb ?_
    exact br_t rfl ⟨rfl, rfl, ho⟩
theorem i_vc_safe {k : Nat} {u : SX} {v : SY} (I : i_Rel k u v) (hk : k + 4 ≤ 2049) (v1 : Int32) : wpX_safe (fun r => wpY_safe (fun r' => r' = r ∧ i_Rel (k + 4) u v) v v1) u v1 := by
  obtain ⟨c, s, o, w⟩ := u
  obtain ⟨e, ho⟩ := I
  subst e
  unfold wpX_safe wpY_safe
  dsimp only
  by_cases hb : sd_L v1
  · refine sd_xl hb ?_
    refine br_f sd_10 ⟨sd_in16 hb, ?_⟩
    refine sd_yl hb ?_
    exact br_f sd_10 ⟨sd_in16 hb, rfl, rfl, ho⟩
  · refine sd_xll hb ?_
    refine br_t rfl ?_
    refine sd_yll hb ?_
    exact br_t rfl ⟨rfl, rfl, ho⟩
theorem i_vc_owner {k : Nat} {u : SX} {v : SY} (I : i_Rel k u v) (hk : k + 4 ≤ 2049) (v1 : Int32) : wpX_owner (fun r => wpY_owner (fun r' => r' = r ∧ i_Rel (k + 4) u v) v v1) u v1 := by
  obtain ⟨c, s, o, w⟩ := u
  obtain ⟨e, ho⟩ := I
  subst e
  unfold wpX_owner wpY_owner
  dsimp only
  by_cases hb : sd_L v1
  · refine sd_xl hb ?_
    refine br_f sd_10 ⟨sd_in16 hb, ?_⟩
    refine sd_yl hb ?_
    exact br_f sd_10 ⟨sd_in16 hb, rfl, rfl, ho⟩
  · refine sd_xll hb ?_
    refine br_t rfl ?_
    refine sd_yll hb ?_
    exact br_t rfl ⟨rfl, rfl, ho⟩
theorem i_vc_unsafe {k : Nat} {u : SX} {v : SY} (I : i_Rel k u v) (hk : k + 4 ≤ 2049) (v1 : Int32) : wpX_unsafe (fun r => wpY_unsafe (fun r' => r' = r ∧ i_Rel (k + 4) u v) v v1) u v1 := by
  obtain ⟨c, s, o, w⟩ := u
  obtain ⟨e, ho⟩ := I
  subst e
  unfold wpX_unsafe
  dsimp only
  by_cases hn : sd_N v1
  · obtain ⟨r, hX, hY⟩ := sd_cnt v1 c s o w
    refine sd_xn hn ?_
    refine br_f sd_10 ?_
    refine hX _ ?_
    refine sd_yu hn ?_
    exact hY _ ⟨rfl, rfl, ho⟩
  · refine sd_xnn hn ?_
    refine br_t rfl ?_
    unfold wpY_unsafe
    dsimp only
    refine sd_ynn hn ?_
    exact br_t rfl ⟨rfl, rfl, ho⟩
theorem i_vc_up {k : Nat} {u : SX} {v : SY} (I : i_Rel k u v) (hk : k + 4 ≤ 2049) (v1 : Int32) : wpX_up (fun r => wpY_up (fun r' => r' = r ∧ i_Rel (k + 4) u v) v v1) u v1 := by
  obtain ⟨c, s, o, w⟩ := u
  obtain ⟨e, ho⟩ := I
  subst e
  unfold wpX_up wpY_up
  dsimp only
  by_cases hn : sd_N v1
  · refine sd_xn hn ?_
    by_cases hw : w v1.toNatClampNeg = 0
    · refine br_f sd_10 ⟨sd_in3 hn, br_t hw ?_⟩
      refine sd_yn hn ?_
      exact br_f sd_10 ⟨sd_in3 hn, br_t hw ⟨rfl, rfl, ho⟩⟩
    · refine br_f sd_10 ⟨sd_in3 hn, br_f hw ?_⟩
      refine sd_yn hn ?_
      exact br_f sd_10 ⟨sd_in3 hn, br_f hw ⟨rfl, rfl, ho⟩⟩
  · refine sd_xnn hn ?_
    refine br_t rfl ?_
    refine sd_ynn hn ?_
    exact br_t rfl ⟨rfl, rfl, ho⟩
