/-- an owner is nothing, or a node -/
def sd_K (o : Nat → Int32) : Prop := ∀ j : Nat, o j = -4 ∨ ¬ o j < 0
/-- the two disks hold the same contents, safe contents, owners and crashed nodes; every owner is nothing or not negative -/
def i_Rel (_ : Nat) (u : SX) (v : SY) : Prop := u = v ∧ sd_K u.2.2.1
theorem i_up {k : Nat} {u : SX} {v : SY} (h : i_Rel k u v) : i_Rel (k + 4) u v := h

theorem sd_upd {o : Nat → Int32} (h : sd_K o) (k : Nat) {x : Int32} (hx : x = -4 ∨ ¬ x < 0) : sd_K (upd o k x) := by
  intro j
  by_cases e : j = k
  · have e1 : upd o k x j = x := if_pos e
    rw [e1]
    exact hx
  · have e1 : upd o k x j = o j := if_neg e
    rw [e1]
    exact h j
theorem sd_16 : nI 16 = 16 := by decide +kernel
theorem sd_3 : nI 3 = 3 := by decide +kernel
theorem sd_10 : ¬ (1 : Int32) = 0 := by decide
theorem sd_m4 : (-4 : Int32) < 0 := by decide
theorem sd_ge {j : Nat} (h : j = 16) : (16 : Int32) ≤ nI j := by
  rw [h, ← sd_16]
  exact nI_le (Nat.le_refl _) (by decide)
theorem sd_nge {j : Nat} (h : j < 16) : ¬ (16 : Int32) ≤ nI j := by
  rw [← sd_16]
  exact nI_ge h (by decide)
theorem sd_ge3 {j : Nat} (h : j = 3) : (3 : Int32) ≤ nI j := by
  rw [h, ← sd_3]
  exact nI_le (Nat.le_refl _) (by decide)
theorem sd_nge3 {j : Nat} (h : j < 3) : ¬ (3 : Int32) ≤ nI j := by
  rw [← sd_3]
  exact nI_ge h (by decide)
def sd_N (p : Int32) : Prop := ¬ p < 0 ∧ ¬ 3 ≤ p
def sd_L (b : Int32) : Prop := ¬ b < 0 ∧ ¬ 16 ≤ b
theorem sd_in3 {p : Int32} (h : sd_N p) : vp_in p 3 := by
  obtain ⟨h0, h3⟩ := h
  obtain ⟨j, hj, rfl⟩ := nI_of h0
  rw [← sd_3, nI_leI (by decide) hj] at h3
  exact vp_in_nI (by omega) (by decide)
theorem sd_in16 {b : Int32} (h : sd_L b) : vp_in b 16 := by
  obtain ⟨h0, h3⟩ := h
  obtain ⟨j, hj, rfl⟩ := nI_of h0
  rw [← sd_16, nI_leI (by decide) hj] at h3
  exact vp_in_nI (by omega) (by decide)
theorem sd_L0 : sd_L 0 := ⟨by decide, by decide⟩

theorem sd_xn {p : Int32} {post : Int32 → Prop} (h : sd_N p) (hp : post 1) : wpX_isNode post p := br_f h.1 (br_f h.2 hp)
theorem sd_xnn {p : Int32} {post : Int32 → Prop} (h : ¬ sd_N p) (hp : post 0) : wpX_isNode post p := by
  by_cases h0 : p < 0
  · exact br_t h0 hp
  · by_cases h3 : 3 ≤ p
    · exact br_f h0 (br_t h3 hp)
    · exact absurd ⟨h0, h3⟩ h
theorem sd_xl {b : Int32} {post : Int32 → Prop} (h : sd_L b) (hp : post 1) : wpX_isBlock post b := br_f h.1 (br_f h.2 hp)
theorem sd_xll {b : Int32} {post : Int32 → Prop} (h : ¬ sd_L b) (hp : post 0) : wpX_isBlock post b := by
  by_cases h0 : b < 0
  · exact br_t h0 hp
  · by_cases h3 : 16 ≤ b
    · exact br_f h0 (br_t h3 hp)
    · exact absurd ⟨h0, h3⟩ h
theorem sd_yn {p : Int32} {post : Int32 → Prop} {c s o w : Nat → Int32} (h : sd_N p) (hp : post 1) : wpY_isNode post (c, s, o, w) p := br_f h.1 (br_f h.2 hp)
theorem sd_ynn {p : Int32} {post : Int32 → Prop} {c s o w : Nat → Int32} (h : ¬ sd_N p) (hp : post 0) : wpY_isNode post (c, s, o, w) p := by
  by_cases h0 : p < 0
  · exact br_t h0 hp
  · by_cases h3 : 3 ≤ p
    · exact br_f h0 (br_t h3 hp)
    · exact absurd ⟨h0, h3⟩ h
theorem sd_yl {b : Int32} {post : Int32 → Prop} {c s o w : Nat → Int32} (h : sd_L b) (hp : post 1) : wpY_isBlock post (c, s, o, w) b := br_f h.1 (br_f h.2 hp)
theorem sd_yll {b : Int32} {post : Int32 → Prop} {c s o w : Nat → Int32} (h : ¬ sd_L b) (hp : post 0) : wpY_isBlock post (c, s, o, w) b := by
  by_cases h0 : b < 0
  · exact br_t h0 hp
  · by_cases h3 : 16 ≤ b
    · exact br_f h0 (br_t h3 hp)
    · exact absurd ⟨h0, h3⟩ h

theorem sd_yr1 {p a b : Int32} {post : Int32 → Prop} {c s o w : Nat → Int32} (hn : ¬ sd_N p) (hp : post (-1)) : wpY_refusal post (c, s, o, w) p a b := by
  unfold wpY_refusal
  dsimp only
  refine sd_ynn hn ?_
  exact br_t rfl hp
theorem sd_yr2 {p a b : Int32} {post : Int32 → Prop} {c s o w : Nat → Int32} (hn : sd_N p) (hb : ¬ (sd_L a ∧ sd_L b)) (hp : post (-2)) : wpY_refusal post (c, s, o, w) p a b := by
  unfold wpY_refusal
  dsimp only
  refine sd_yn hn ?_
  refine br_f sd_10 ?_
  by_cases ha : sd_L a
  · refine sd_yl ha ?_
    refine br_f sd_10 ?_
    refine sd_yll (fun z => hb ⟨ha, z⟩) ?_
    exact br_t rfl hp
  · refine sd_yll ha ?_
    exact br_t rfl hp
theorem sd_yr3 {p a b : Int32} {post : Int32 → Prop} {c s o w : Nat → Int32} (hn : sd_N p) (ha : sd_L a) (hb : sd_L b) (hw : ¬ w p.toNatClampNeg = 0) (hp : post (-3)) : wpY_refusal post (c, s, o, w) p a b := by
  unfold wpY_refusal
  dsimp only
  refine sd_yn hn ?_
  refine br_f sd_10 ?_
  refine sd_yl ha ?_
  refine br_f sd_10 ?_
  refine sd_yl hb ?_
  refine br_f sd_10 ?_
  exact ⟨sd_in3 hn, br_f hw hp⟩
theorem sd_yr4 {p a b : Int32} {post : Int32 → Prop} {c s o w : Nat → Int32} (hn : sd_N p) (ha : sd_L a) (hb : sd_L b) (hw : w p.toNatClampNeg = 0) (hp : post 0) : wpY_refusal post (c, s, o, w) p a b := by
  unfold wpY_refusal
  dsimp only
  refine sd_yn hn ?_
  refine br_f sd_10 ?_
  refine sd_yl ha ?_
  refine br_f sd_10 ?_
  refine sd_yl hb ?_
  refine br_f sd_10 ?_
  exact ⟨sd_in3 hn, br_t hw hp⟩
theorem sd_n00 : ¬ (0 : Int32) < 0 := by decide
theorem sd_00 : (0 : Int32) ≤ 0 := by decide
theorem sd_r1 : ¬ (0 : Int32) ≤ -1 := by decide
theorem sd_r2 : ¬ (0 : Int32) ≤ -2 := by decide
theorem sd_r3 : ¬ (0 : Int32) ≤ -3 := by decide
