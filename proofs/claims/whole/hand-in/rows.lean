section
/-- an owner is nothing, or a node -/
def sd_K (o : Nat → Int32) : Prop := ∀ j : Nat, o j = -4 ∨ ¬ o j < 0
/-- the two disks hold the same contents, safe contents, owners and crashed nodes; every owner is nothing or not negative -/
def i_Rel (_ : Nat) (u : SX) (v : SY) : Prop := u = v ∧ sd_K u.2.2.1
theorem i_up {k : Nat} {u : SX} {v : SY} (h : i_Rel k u v) : i_Rel (k + 4) u v := h

theorem sd_upd {o : Nat → Int32} (h : sd_K o) (k : Nat) {x : Int32} (hx : x = -4 ∨ ¬ x < 0) : sd_K (upd o k x) := by
  intro j
  by_cases e : j = k
  · have e1 : upd o k x j = x := if_pos e
    rw [e1]
    exact hx
  · have e1 : upd o k x j = o j := if_neg e
    rw [e1]
    exact h j
theorem sd_16 : nI 16 = 16 := by decide +kernel
theorem sd_3 : nI 3 = 3 := by decide +kernel
theorem sd_10 : ¬ (1 : Int32) = 0 := by decide
theorem sd_m4 : (-4 : Int32) < 0 := by decide
theorem sd_ge {j : Nat} (h : j = 16) : (16 : Int32) ≤ nI j := by
  rw [h, ← sd_16]
  exact nI_le (Nat.le_refl _) (by decide)
theorem sd_nge {j : Nat} (h : j < 16) : ¬ (16 : Int32) ≤ nI j := by
  rw [← sd_16]
  exact nI_ge h (by decide)
theorem sd_ge3 {j : Nat} (h : j = 3) : (3 : Int32) ≤ nI j := by
  rw [h, ← sd_3]
  exact nI_le (Nat.le_refl _) (by decide)
theorem sd_nge3 {j : Nat} (h : j < 3) : ¬ (3 : Int32) ≤ nI j := by
  rw [← sd_3]
  exact nI_ge h (by decide)
def sd_N (p : Int32) : Prop := ¬ p < 0 ∧ ¬ 3 ≤ p
def sd_L (b : Int32) : Prop := ¬ b < 0 ∧ ¬ 16 ≤ b
theorem sd_in3 {p : Int32} (h : sd_N p) : vp_in p 3 := by
  obtain ⟨h0, h3⟩ := h
  obtain ⟨j, hj, rfl⟩ := nI_of h0
  rw [← sd_3, nI_leI (by decide) hj] at h3
  exact vp_in_nI (by omega) (by decide)
theorem sd_in16 {b : Int32} (h : sd_L b) : vp_in b 16 := by
  obtain ⟨h0, h3⟩ := h
  obtain ⟨j, hj, rfl⟩ := nI_of h0
  rw [← sd_16, nI_leI (by decide) hj] at h3
  exact vp_in_nI (by omega) (by decide)
theorem sd_L0 : sd_L 0 := ⟨by decide, by decide⟩

theorem sd_xn {p : Int32} {post : Int32 → Prop} (h : sd_N p) (hp : post 1) : wpX_isNode post p := br_f h.1 (br_f h.2 hp)
theorem sd_xnn {p : Int32} {post : Int32 → Prop} (h : ¬ sd_N p) (hp : post 0) : wpX_isNode post p := by
  by_cases h0 : p < 0
  · exact br_t h0 hp
  · by_cases h3 : 3 ≤ p
    · exact br_f h0 (br_t h3 hp)
    · exact absurd ⟨h0, h3⟩ h
theorem sd_xl {b : Int32} {post : Int32 → Prop} (h : sd_L b) (hp : post 1) : wpX_isBlock post b := br_f h.1 (br_f h.2 hp)
theorem sd_xll {b : Int32} {post : Int32 → Prop} (h : ¬ sd_L b) (hp : post 0) : wpX_isBlock post b := by
  by_cases h0 : b < 0
  · exact br_t h0 hp
  · by_cases h3 : 16 ≤ b
    · exact br_f h0 (br_t h3 hp)
    · exact absurd ⟨h0, h3⟩ h
theorem sd_yn {p : Int32} {post : Int32 → Prop} {c s o w : Nat → Int32} (h : sd_N p) (hp : post 1) : wpY_isNode post (c, s, o, w) p := br_f h.1 (br_f h.2 hp)
theorem sd_ynn {p : Int32} {post : Int32 → Prop} {c s o w : Nat → Int32} (h : ¬ sd_N p) (hp : post 0) : wpY_isNode post (c, s, o, w) p := by
  by_cases h0 : p < 0
  · exact br_t h0 hp
  · by_cases h3 : 3 ≤ p
    · exact br_f h0 (br_t h3 hp)
    · exact absurd ⟨h0, h3⟩ h
theorem sd_yl {b : Int32} {post : Int32 → Prop} {c s o w : Nat → Int32} (h : sd_L b) (hp : post 1) : wpY_isBlock post (c, s, o, w) b := br_f h.1 (br_f h.2 hp)
theorem sd_yll {b : Int32} {post : Int32 → Prop} {c s o w : Nat → Int32} (h : ¬ sd_L b) (hp : post 0) : wpY_isBlock post (c, s, o, w) b := by
  by_cases h0 : b < 0
  · exact br_t h0 hp
  · by_cases h3 : 16 ≤ b
    · exact br_f h0 (br_t h3 hp)
    · exact absurd ⟨h0, h3⟩ h

theorem sd_yr1 {p a b : Int32} {post : Int32 → Prop} {c s o w : Nat → Int32} (hn : ¬ sd_N p) (hp : post (-1)) : wpY_refusal post (c, s, o, w) p a b := by
  unfold wpY_refusal
  dsimp only
  refine sd_ynn hn ?_
  exact br_t rfl hp
theorem sd_yr2 {p a b : Int32} {post : Int32 → Prop} {c s o w : Nat → Int32} (hn : sd_N p) (hb : ¬ (sd_L a ∧ sd_L b)) (hp : post (-2)) : wpY_refusal post (c, s, o, w) p a b := by
  unfold wpY_refusal
  dsimp only
  refine sd_yn hn ?_
  refine br_f sd_10 ?_
  by_cases ha : sd_L a
  · refine sd_yl ha ?_
    refine br_f sd_10 ?_
    refine sd_yll (fun z => hb ⟨ha, z⟩) ?_
    exact br_t rfl hp
  · refine sd_yll ha ?_
    exact br_t rfl hp
theorem sd_yr3 {p a b : Int32} {post : Int32 → Prop} {c s o w : Nat → Int32} (hn : sd_N p) (ha : sd_L a) (hb : sd_L b) (hw : ¬ w p.toNatClampNeg = 0) (hp : post (-3)) : wpY_refusal post (c, s, o, w) p a b := by
  unfold wpY_refusal
  dsimp only
  refine sd_yn hn ?_
  refine br_f sd_10 ?_
  refine sd_yl ha ?_
  refine br_f sd_10 ?_
  refine sd_yl hb ?_
  refine br_f sd_10 ?_
  exact ⟨sd_in3 hn, br_f hw hp⟩
theorem sd_yr4 {p a b : Int32} {post : Int32 → Prop} {c s o w : Nat → Int32} (hn : sd_N p) (ha : sd_L a) (hb : sd_L b) (hw : w p.toNatClampNeg = 0) (hp : post 0) : wpY_refusal post (c, s, o, w) p a b := by
  unfold wpY_refusal
  dsimp only
  refine sd_yn hn ?_
  refine br_f sd_10 ?_
  refine sd_yl ha ?_
  refine br_f sd_10 ?_
  refine sd_yl hb ?_
  refine br_f sd_10 ?_
  exact ⟨sd_in3 hn, br_t hw hp⟩
theorem sd_n00 : ¬ (0 : Int32) < 0 := by decide
theorem sd_00 : (0 : Int32) ≤ 0 := by decide
theorem sd_r1 : ¬ (0 : Int32) ≤ -1 := by decide
theorem sd_r2 : ¬ (0 : Int32) ≤ -2 := by decide
theorem sd_r3 : ¬ (0 : Int32) ≤ -3 := by decide
end
section
theorem sd_init : ∀ d j : Nat, j + d = 16 → ∀ o : Nat → Int32, sd_K o → ∃ o' : Nat → Int32, sd_K o' ∧
    (∀ (post : SX → Prop) (c s w : Nat → Int32), post (c, s, o', w) → wX_init_37 post (d + 1) (nI j) c s o w) ∧
    (∀ (post : SY → Prop) (c s w : Nat → Int32), post (c, s, o', w) → wY_init_37 post (d + 1) (nI j) c s o w) := by
  intro d
  induction d with
  | zero =>
    intro j hj o ho
    have h := sd_ge (j := j) (by omega)
    exact ⟨o, ho, fun _ _ _ _ hp => br_t h hp, fun _ _ _ _ hp => br_t h hp⟩
  | succ d ih =>
    intro j hj o ho
    have h := sd_nge (j := j) (by omega)
    have hi : vp_in (nI j) 16 := vp_in_nI (by omega) (by decide)
    obtain ⟨o', ho', hX, hY⟩ := ih (j + 1) (by omega) (upd o (nI j).toNatClampNeg (-4)) (sd_upd ho _ (Or.inl rfl))
    exact ⟨o', ho', fun post c s w hp => br_f h ⟨hi, nm_e (nm_r (nI_1 j) (hX post c s w hp))⟩,
      fun post c s w hp => br_f h ⟨hi, nm_e (nm_r (nI_1 j) (hY post c s w hp))⟩⟩

theorem sd_keep (p q : Int32) (hq : ¬ q = 0) (c w : Nat → Int32) : ∀ d j : Nat, j + d = 16 → ∀ (x : Int32) (s o : Nat → Int32), sd_K o →
    ∃ (r : Int32) (s' o' : Nat → Int32), sd_K o' ∧
    (∀ post : Int32 → SX → Prop, post r (c, s', o', w) → wX_makeSafe_4 post p (d + 1) x (nI j) c s o w) ∧
    (∀ post : Int32 → SY → Prop, post r (c, s', o', w) → wY_settle_5 post p q (d + 1) x (nI j) c s o w) := by
  intro d
  induction d with
  | zero =>
    intro j hj x s o ho
    have h := sd_ge (j := j) (by omega)
    exact ⟨x, s, o, ho, fun _ hp => br_t h hp, fun _ hp => br_t h hp⟩
  | succ d ih =>
    intro j hj x s o ho
    have h := sd_nge (j := j) (by omega)
    have hi : vp_in (nI j) 16 := vp_in_nI (by omega) (by decide)
    by_cases e : o (nI j).toNatClampNeg = p
    · obtain ⟨r, s', o', ho', hX, hY⟩ := ih (j + 1) (by omega) (x + 1) (upd s (nI j).toNatClampNeg (c (nI j).toNatClampNeg)) (upd o (nI j).toNatClampNeg (-4)) (sd_upd ho _ (Or.inl rfl))
      exact ⟨r, s', o', ho',
        fun post hp => br_f h ⟨hi, br_t e ⟨hi, hi, nm_e ⟨hi, nm_e (nm_e (nm_r (nI_1 j) (hX post hp)))⟩⟩⟩,
        fun post hp => br_f h ⟨hi, br_t e (br_f hq ⟨hi, hi, nm_e ⟨hi, nm_e (nm_e (nm_r (nI_1 j) (hY post hp)))⟩⟩)⟩⟩
    · obtain ⟨r, s', o', ho', hX, hY⟩ := ih (j + 1) (by omega) x s o ho
      exact ⟨r, s', o', ho', fun post hp => br_f h ⟨hi, br_f e (nm_r (nI_1 j) (hX post hp))⟩,
        fun post hp => br_f h ⟨hi, br_f e (nm_r (nI_1 j) (hY post hp))⟩⟩

theorem sd_drop (p : Int32) (s w : Nat → Int32) : ∀ d j : Nat, j + d = 16 → ∀ (x : Int32) (c o : Nat → Int32), sd_K o →
    ∃ (r : Int32) (c' o' : Nat → Int32), sd_K o' ∧
    (∀ post : Int32 → SX → Prop, post r (c', s, o', w) → wX_undo_4 post p (d + 1) x (nI j) c s o w) ∧
    (∀ post : Int32 → SY → Prop, post r (c', s, o', w) → wY_settle_5 post p 0 (d + 1) x (nI j) c s o w) := by
  intro d
  induction d with
  | zero =>
    intro j hj x c o ho
    have h := sd_ge (j := j) (by omega)
    exact ⟨x, c, o, ho, fun _ hp => br_t h hp, fun _ hp => br_t h hp⟩
  | succ d ih =>
    intro j hj x c o ho
    have h := sd_nge (j := j) (by omega)
    have hi : vp_in (nI j) 16 := vp_in_nI (by omega) (by decide)
    by_cases e : o (nI j).toNatClampNeg = p
    · obtain ⟨r, c', o', ho', hX, hY⟩ := ih (j + 1) (by omega) (x + 1) (upd c (nI j).toNatClampNeg (s (nI j).toNatClampNeg)) (upd o (nI j).toNatClampNeg (-4)) (sd_upd ho _ (Or.inl rfl))
      exact ⟨r, c', o', ho',
        fun post hp => br_f h ⟨hi, br_t e ⟨hi, hi, nm_e ⟨hi, nm_e (nm_e (nm_r (nI_1 j) (hX post hp)))⟩⟩⟩,
        fun post hp => br_f h ⟨hi, br_t e (br_t rfl ⟨hi, hi, nm_e ⟨hi, nm_e (nm_e (nm_r (nI_1 j) (hY post hp)))⟩⟩)⟩⟩
    · obtain ⟨r, c', o', ho', hX, hY⟩ := ih (j + 1) (by omega) x c o ho
      exact ⟨r, c', o', ho', fun post hp => br_f h ⟨hi, br_f e (nm_r (nI_1 j) (hX post hp))⟩,
        fun post hp => br_f h ⟨hi, br_f e (nm_r (nI_1 j) (hY post hp))⟩⟩

theorem sd_count (p : Int32) (c s o w : Nat → Int32) : ∀ d j : Nat, j + d = 16 → ∀ x : Int32, ∃ r : Int32,
    (∀ post : Int32 → Prop, post r → wX_countUnsafe_4 post p c s o w (d + 1) x (nI j)) ∧
    (∀ post : Int32 → Prop, post r → wY_unsafe_14 post p c s o w (d + 1) x (nI j)) := by
  intro d
  induction d with
  | zero =>
    intro j hj x
    have h := sd_ge (j := j) (by omega)
    exact ⟨x, fun _ hp => br_t h hp, fun _ hp => br_t h hp⟩
  | succ d ih =>
    intro j hj x
    have h := sd_nge (j := j) (by omega)
    have hi : vp_in (nI j) 16 := vp_in_nI (by omega) (by decide)
    by_cases e : o (nI j).toNatClampNeg = p
    · obtain ⟨r, hX, hY⟩ := ih (j + 1) (by omega) (x + 1)
      exact ⟨r, fun post hp => br_f h ⟨hi, br_t e (nm_e (nm_r (nI_1 j) (hX post hp)))⟩,
        fun post hp => br_f h ⟨hi, br_t e (nm_e (nm_r (nI_1 j) (hY post hp)))⟩⟩
    · obtain ⟨r, hX, hY⟩ := ih (j + 1) (by omega) x
      exact ⟨r, fun post hp => br_f h ⟨hi, br_f e (nm_r (nI_1 j) (hX post hp))⟩,
        fun post hp => br_f h ⟨hi, br_f e (nm_r (nI_1 j) (hY post hp))⟩⟩

theorem sd_mk (p q : Int32) (hq : ¬ q = 0) (c s o w : Nat → Int32) (ho : sd_K o) : ∃ (r : Int32) (s' o' : Nat → Int32), sd_K o' ∧
    (∀ post : Int32 → SX → Prop, post r (c, s', o', w) → wpX_makeSafe post (c, s, o, w) p) ∧
    (∀ post : Int32 → SY → Prop, post r (c, s', o', w) → wpY_settle post (c, s, o, w) p q) := by
  obtain ⟨r, s', o', ho', hX, hY⟩ := sd_keep p q hq c w 16 0 rfl 0 s o ho
  rw [nI_0] at hX hY
  exact ⟨r, s', o', ho', fun post hp => ⟨17, hX post hp⟩, fun post hp => ⟨17, hY post hp⟩⟩
theorem sd_un (p : Int32) (c s o w : Nat → Int32) (ho : sd_K o) : ∃ (r : Int32) (c' o' : Nat → Int32), sd_K o' ∧
    (∀ post : Int32 → SX → Prop, post r (c', s, o', w) → wpX_undo post (c, s, o, w) p) ∧
    (∀ post : Int32 → SY → Prop, post r (c', s, o', w) → wpY_settle post (c, s, o, w) p 0) := by
  obtain ⟨r, c', o', ho', hX, hY⟩ := sd_drop p s w 16 0 rfl 0 c o ho
  rw [nI_0] at hX hY
  exact ⟨r, c', o', ho', fun post hp => ⟨17, hX post hp⟩, fun post hp => ⟨17, hY post hp⟩⟩
theorem sd_cnt (p : Int32) (c s o w : Nat → Int32) : ∃ r : Int32,
    (∀ post : Int32 → Prop, post r → wpX_countUnsafe post (c, s, o, w) p) ∧
    (∀ post : Int32 → Prop, post r → ∃ n : Nat, wY_unsafe_14 post p c s o w n 0 0) := by
  obtain ⟨r, hX, hY⟩ := sd_count p c s o w 16 0 rfl 0
  rw [nI_0] at hX hY
  exact ⟨r, fun post hp => ⟨17, hX post hp⟩, fun post hp => ⟨17, hY post hp⟩⟩
theorem sd_take (p b : Int32) (hb : vp_in b 16) (c s o w : Nat → Int32) (ho : sd_K o) : ∃ s' o' : Nat → Int32, sd_K o' ∧
    (∀ post : SX → Prop, post (c, s', o', w) → wpX_settleOtherOwner post (c, s, o, w) p b) ∧
    (∀ post : SY → Prop, post (c, s', o', w) → wpY_takeFromOthers post (c, s, o, w) p b) := by
  rcases ho b.toNatClampNeg with e4 | hn
  · have hl : o b.toNatClampNeg < 0 := by rw [e4]; exact sd_m4
    exact ⟨s, o, ho, fun post hp => ⟨hb, nm_e (br_t e4 hp)⟩, fun post hp => ⟨hb, br_t hl hp⟩⟩
  · have n4 : ¬ o b.toNatClampNeg = -4 := fun z => hn (by rw [z]; exact sd_m4)
    by_cases ep : o b.toNatClampNeg = p
    · exact ⟨s, o, ho, fun post hp => ⟨hb, nm_e (br_f n4 (br_t ep hp))⟩, fun post hp => ⟨hb, br_f hn ⟨hb, br_t ep hp⟩⟩⟩
    · obtain ⟨r, s', o', ho', hX, hY⟩ := sd_mk (o b.toNatClampNeg) 1 sd_10 c s o w ho
      exact ⟨s', o', ho', fun post hp => ⟨hb, nm_e (br_f n4 (br_f ep (hX _ hp)))⟩,
        fun post hp => ⟨hb, br_f hn ⟨hb, br_f ep ⟨hb, hY _ hp⟩⟩⟩⟩
end
section
/-- one answer and one state, in which every owner is nothing or not negative, that both walks reach -/
def sd_B (A : (Int32 → SX → Prop) → Prop) (B : (Int32 → SY → Prop) → Prop) : Prop :=
  ∃ (r : Int32) (c s o w : Nat → Int32), sd_K o ∧ (∀ post : Int32 → SX → Prop, post r (c, s, o, w) → A post) ∧ (∀ post : Int32 → SY → Prop, post r (c, s, o, w) → B post)
theorem sd_use {A : (Int32 → SX → Prop) → Prop} {B : (Int32 → SY → Prop) → Prop} (k : Nat) (h : sd_B A B) : A (fun r u' => B (fun r' v' => r' = r ∧ i_Rel (k + 4) u' v')) := by
  obtain ⟨r, c, s, o, w, ho, hX, hY⟩ := h
  exact hX _ (hY _ ⟨rfl, rfl, ho⟩)

theorem sd_read (p b : Int32) (c s o w : Nat → Int32) (ho : sd_K o) : sd_B (fun post => wpX_read post (c, s, o, w) p b) (fun post => wpY_read post (c, s, o, w) p b) := by
  by_cases hn : sd_N p
  · by_cases hb : sd_L b
    · by_cases hw : w p.toNatClampNeg = 0
      · obtain ⟨s', o', ho', hX, hY⟩ := sd_take p b (sd_in16 hb) c s o w ho
        refine ⟨c b.toNatClampNeg, c, s', o', w, ho', fun post hp => ?_, fun post hp => ?_⟩
        · unfold wpX_read
          dsimp only
          refine sd_xn hn ?_
          refine br_f sd_10 ?_
          refine sd_xl hb ?_
          refine br_f sd_10 ⟨sd_in3 hn, br_t hw ?_⟩
          refine hX _ ?_
          exact ⟨sd_in16 hb, hp⟩
        · unfold wpY_read
          dsimp only
          refine sd_yr4 hn hb hb hw ?_
          refine br_t sd_00 ?_
          refine hY _ ?_
          exact ⟨sd_in16 hb, hp⟩
      · refine ⟨-3, c, s, o, w, ho, fun post hp => ?_, fun post hp => ?_⟩
        · unfold wpX_read
          dsimp only
          refine sd_xn hn ?_
          refine br_f sd_10 ?_
          refine sd_xl hb ?_
          exact br_f sd_10 ⟨sd_in3 hn, br_f hw hp⟩
        · unfold wpY_read
          dsimp only
          refine sd_yr3 hn hb hb hw ?_
          exact br_f sd_r3 hp
    · refine ⟨-2, c, s, o, w, ho, fun post hp => ?_, fun post hp => ?_⟩
      · unfold wpX_read
        dsimp only
        refine sd_xn hn ?_
        refine br_f sd_10 ?_
        refine sd_xll hb ?_
        exact br_t rfl hp
      · unfold wpY_read
        dsimp only
        refine sd_yr2 hn (fun z => hb z.1) ?_
        exact br_f sd_r2 hp
  · refine ⟨-1, c, s, o, w, ho, fun post hp => ?_, fun post hp => ?_⟩
    · unfold wpX_read
      dsimp only
      refine sd_xnn hn ?_
      exact br_t rfl hp
    · unfold wpY_read
      dsimp only
      refine sd_yr1 hn ?_
      exact br_f sd_r1 hp

theorem sd_yu {p : Int32} {post : Int32 → Prop} {c s o w : Nat → Int32} (hn : sd_N p) (h : ∃ n : Nat, wY_unsafe_14 post p c s o w n 0 0) : wpY_unsafe post (c, s, o, w) p := by
  unfold wpY_unsafe
  dsimp only
  refine sd_yn hn ?_
  exact br_f sd_10 h

theorem sd_write (p b x : Int32) (c s o w : Nat → Int32) (ho : sd_K o) : sd_B (fun post => wpX_write post (c, s, o, w) p b x) (fun post => wpY_write post (c, s, o, w) p b x) := by
  by_cases hn : sd_N p
  · by_cases hb : sd_L b
    · by_cases hw : w p.toNatClampNeg = 0
      · obtain ⟨s', o', ho', hX, hY⟩ := sd_take p b (sd_in16 hb) c s o w ho
        obtain ⟨r, hXc, hYc⟩ := sd_cnt p (upd c b.toNatClampNeg x) s' (upd o' b.toNatClampNeg p) w
        refine ⟨r, upd c b.toNatClampNeg x, s', upd o' b.toNatClampNeg p, w, sd_upd ho' _ (Or.inr hn.1), fun post hp => ?_, fun post hp => ?_⟩
        · unfold wpX_write
          dsimp only
          refine sd_xn hn ?_
          refine br_f sd_10 ?_
          refine sd_xl hb ?_
          refine br_f sd_10 ⟨sd_in3 hn, br_t hw ?_⟩
          refine hX _ ?_
          refine ⟨sd_in16 hb, nm_e ⟨sd_in16 hb, nm_e ?_⟩⟩
          exact hXc _ hp
        · unfold wpY_write
          dsimp only
          refine sd_yr4 hn hb hb hw ?_
          refine br_t sd_00 ?_
          refine hY _ ?_
          refine ⟨sd_in16 hb, nm_e ⟨sd_in16 hb, nm_e ?_⟩⟩
          refine sd_yu hn ?_
          exact hYc _ hp
      · refine ⟨-3, c, s, o, w, ho, fun post hp => ?_, fun post hp => ?_⟩
        · unfold wpX_write
          dsimp only
          refine sd_xn hn ?_
          refine br_f sd_10 ?_
          refine sd_xl hb ?_
          exact br_f sd_10 ⟨sd_in3 hn, br_f hw hp⟩
        · unfold wpY_write
          dsimp only
          refine sd_yr3 hn hb hb hw ?_
          exact br_f sd_r3 hp
    · refine ⟨-2, c, s, o, w, ho, fun post hp => ?_, fun post hp => ?_⟩
      · unfold wpX_write
        dsimp only
        refine sd_xn hn ?_
        refine br_f sd_10 ?_
        refine sd_xll hb ?_
        exact br_t rfl hp
      · unfold wpY_write
        dsimp only
        refine sd_yr2 hn (fun z => hb z.1) ?_
        exact br_f sd_r2 hp
  · refine ⟨-1, c, s, o, w, ho, fun post hp => ?_, fun post hp => ?_⟩
    · unfold wpX_write
      dsimp only
      refine sd_xnn hn ?_
      exact br_t rfl hp
    · unfold wpY_write
      dsimp only
      refine sd_yr1 hn ?_
      exact br_f sd_r1 hp

theorem sd_swap (p a b : Int32) (c s o w : Nat → Int32) (ho : sd_K o) : sd_B (fun post => wpX_swap post (c, s, o, w) p a b) (fun post => wpY_swap post (c, s, o, w) p a b) := by
  by_cases hn : sd_N p
  · by_cases ha : sd_L a
    · by_cases hb : sd_L b
      · by_cases hw : w p.toNatClampNeg = 0
        · obtain ⟨r1, c1, s1, o1, w1, ho1, hX1, hY1⟩ := sd_read p a c s o w ho
          obtain ⟨r2, c2, s2, o2, w2, ho2, hX2, hY2⟩ := sd_read p b c1 s1 o1 w1 ho1
          obtain ⟨r3, c3, s3, o3, w3, ho3, hX3, hY3⟩ := sd_write p a r2 c2 s2 o2 w2 ho2
          obtain ⟨r4, c4, s4, o4, w4, ho4, hX4, hY4⟩ := sd_write p b r1 c3 s3 o3 w3 ho3
          refine ⟨r4, c4, s4, o4, w4, ho4, fun post hp => ?_, fun post hp => ?_⟩
          · unfold wpX_swap
            dsimp only
            refine sd_xn hn ?_
            refine br_f sd_10 ?_
            refine sd_xl ha ?_
            refine br_f sd_10 ?_
            refine sd_xl hb ?_
            refine br_f sd_10 ⟨sd_in3 hn, br_t hw ?_⟩
            refine hX1 _ ?_
            refine hX2 _ ?_
            refine hX3 _ ?_
            refine hX4 _ ?_
            exact hp
          · unfold wpY_swap
            dsimp only
            refine sd_yr4 hn ha hb hw ?_
            refine br_t sd_00 ?_
            refine hY1 _ ?_
            refine hY2 _ ?_
            refine hY3 _ ?_
            refine hY4 _ ?_
            exact hp
        · refine ⟨-3, c, s, o, w, ho, fun post hp => ?_, fun post hp => ?_⟩
          · unfold wpX_swap
            dsimp only
            refine sd_xn hn ?_
            refine br_f sd_10 ?_
            refine sd_xl ha ?_
            refine br_f sd_10 ?_
            refine sd_xl hb ?_
            exact br_f sd_10 ⟨sd_in3 hn, br_f hw hp⟩
          · unfold wpY_swap
            dsimp only
            refine sd_yr3 hn ha hb hw ?_
            exact br_f sd_r3 hp
      · refine ⟨-2, c, s, o, w, ho, fun post hp => ?_, fun post hp => ?_⟩
        · unfold wpX_swap
          dsimp only
          refine sd_xn hn ?_
          refine br_f sd_10 ?_
          refine sd_xl ha ?_
          refine br_f sd_10 ?_
          refine sd_xll hb ?_
          exact br_t rfl hp
        · unfold wpY_swap
          dsimp only
          refine sd_yr2 hn (fun z => hb z.2) ?_
          exact br_f sd_r2 hp
    · refine ⟨-2, c, s, o, w, ho, fun post hp => ?_, fun post hp => ?_⟩
      · unfold wpX_swap
        dsimp only
        refine sd_xn hn ?_
        refine br_f sd_10 ?_
        refine sd_xll ha ?_
        exact br_t rfl hp
      · unfold wpY_swap
        dsimp only
        refine sd_yr2 hn (fun z => ha z.1) ?_
        exact br_f sd_r2 hp
  · refine ⟨-1, c, s, o, w, ho, fun post hp => ?_, fun post hp => ?_⟩
    · unfold wpX_swap
      dsimp only
      refine sd_xnn hn ?_
      exact br_t rfl hp
    · unfold wpY_swap
      dsimp only
      refine sd_yr1 hn ?_
      exact br_f sd_r1 hp
end
section
theorem sd_sync (p : Int32) (c s o w : Nat → Int32) (ho : sd_K o) : sd_B (fun post => wpX_sync post (c, s, o, w) p) (fun post => wpY_sync post (c, s, o, w) p) := by
  by_cases hn : sd_N p
  · by_cases hw : w p.toNatClampNeg = 0
    · obtain ⟨r, s', o', ho', hX, hY⟩ := sd_mk p 1 sd_10 c s o w ho
      refine ⟨r, c, s', o', w, ho', fun post hp => ?_, fun post hp => ?_⟩
      · unfold wpX_sync
        dsimp only
        refine sd_xn hn ?_
        refine br_f sd_10 ⟨sd_in3 hn, br_t hw ?_⟩
        exact hX _ hp
      · unfold wpY_sync
        dsimp only
        refine sd_yr4 hn sd_L0 sd_L0 hw ?_
        refine br_t sd_00 ?_
        exact hY _ hp
    · refine ⟨-3, c, s, o, w, ho, fun post hp => ?_, fun post hp => ?_⟩
      · unfold wpX_sync
        dsimp only
        refine sd_xn hn ?_
        exact br_f sd_10 ⟨sd_in3 hn, br_f hw hp⟩
      · unfold wpY_sync
        dsimp only
        refine sd_yr3 hn sd_L0 sd_L0 hw ?_
        exact br_f sd_r3 hp
  · refine ⟨-1, c, s, o, w, ho, fun post hp => ?_, fun post hp => ?_⟩
    · unfold wpX_sync
      dsimp only
      refine sd_xnn hn ?_
      exact br_t rfl hp
    · unfold wpY_sync
      dsimp only
      refine sd_yr1 hn ?_
      exact br_f sd_r1 hp

theorem sd_cis (p q : Int32) (c s o w : Nat → Int32) (ho : sd_K o) : sd_B (fun post => wpX_crashInSync post (c, s, o, w) p q) (fun post => wpY_crashInSync post (c, s, o, w) p q) := by
  by_cases hn : sd_N p
  · by_cases hw : w p.toNatClampNeg = 0
    · by_cases hq : q = 0
      · subst hq
        obtain ⟨r, c', o', ho', hX, hY⟩ := sd_un p c s o (upd w p.toNatClampNeg (vp_nar .boolean 1)) ho
        refine ⟨r, c', s, o', upd w p.toNatClampNeg (vp_nar .boolean 1), ho', fun post hp => ?_, fun post hp => ?_⟩
        · unfold wpX_crashInSync
          dsimp only
          refine sd_xn hn ?_
          refine br_f sd_10 ⟨sd_in3 hn, br_t hw ⟨sd_in3 hn, nm_e (br_t rfl ?_)⟩⟩
          exact hX _ hp
        · unfold wpY_crashInSync
          dsimp only
          refine sd_yr4 hn sd_L0 sd_L0 hw ?_
          refine br_t sd_00 ⟨sd_in3 hn, nm_e ?_⟩
          exact hY _ hp
      · obtain ⟨r, s', o', ho', hX, hY⟩ := sd_mk p q hq c s o (upd w p.toNatClampNeg (vp_nar .boolean 1)) ho
        refine ⟨r, c, s', o', upd w p.toNatClampNeg (vp_nar .boolean 1), ho', fun post hp => ?_, fun post hp => ?_⟩
        · unfold wpX_crashInSync
          dsimp only
          refine sd_xn hn ?_
          refine br_f sd_10 ⟨sd_in3 hn, br_t hw ⟨sd_in3 hn, nm_e (br_f hq ?_)⟩⟩
          exact hX _ hp
        · unfold wpY_crashInSync
          dsimp only
          refine sd_yr4 hn sd_L0 sd_L0 hw ?_
          refine br_t sd_00 ⟨sd_in3 hn, nm_e ?_⟩
          exact hY _ hp
    · refine ⟨-3, c, s, o, w, ho, fun post hp => ?_, fun post hp => ?_⟩
      · unfold wpX_crashInSync
        dsimp only
        refine sd_xn hn ?_
        exact br_f sd_10 ⟨sd_in3 hn, br_f hw hp⟩
      · unfold wpY_crashInSync
        dsimp only
        refine sd_yr3 hn sd_L0 sd_L0 hw ?_
        exact br_f sd_r3 hp
  · refine ⟨-1, c, s, o, w, ho, fun post hp => ?_, fun post hp => ?_⟩
    · unfold wpX_crashInSync
      dsimp only
      refine sd_xnn hn ?_
      exact br_t rfl hp
    · unfold wpY_crashInSync
      dsimp only
      refine sd_yr1 hn ?_
      exact br_f sd_r1 hp

theorem sd_crash (p : Int32) (c s o w : Nat → Int32) (ho : sd_K o) : sd_B (fun post => wpX_crash post (c, s, o, w) p) (fun post => wpY_crash post (c, s, o, w) p) := by
  obtain ⟨r, c', s', o', w', ho', hX, hY⟩ := sd_cis p 0 c s o w ho
  refine ⟨r, c', s', o', w', ho', fun post hp => ?_, fun post hp => ?_⟩
  · unfold wpX_crash
    dsimp only
    refine hX _ ?_
    exact hp
  · unfold wpY_crash
    dsimp only
    refine hY _ ?_
    exact hp

theorem sd_restart (p : Int32) (c s o w : Nat → Int32) (ho : sd_K o) : sd_B (fun post => wpX_restart post (c, s, o, w) p) (fun post => wpY_restart post (c, s, o, w) p) := by
  by_cases hn : sd_N p
  · by_cases hw : w p.toNatClampNeg = 0
    · refine ⟨0, c, s, o, upd w p.toNatClampNeg (vp_nar .boolean 0), ho, fun post hp => ?_, fun post hp => ?_⟩
      · unfold wpX_restart
        dsimp only
        refine sd_xn hn ?_
        exact br_f sd_10 ⟨sd_in3 hn, br_t hw ⟨sd_in3 hn, nm_e hp⟩⟩
      · unfold wpY_restart
        dsimp only
        refine sd_yn hn ?_
        exact br_f sd_10 ⟨sd_in3 hn, br_t hw ⟨sd_in3 hn, nm_e hp⟩⟩
    · refine ⟨1, c, s, o, upd w p.toNatClampNeg (vp_nar .boolean 0), ho, fun post hp => ?_, fun post hp => ?_⟩
      · unfold wpX_restart
        dsimp only
        refine sd_xn hn ?_
        exact br_f sd_10 ⟨sd_in3 hn, br_f hw ⟨sd_in3 hn, nm_e hp⟩⟩
      · unfold wpY_restart
        dsimp only
        refine sd_yn hn ?_
        exact br_f sd_10 ⟨sd_in3 hn, br_f hw ⟨sd_in3 hn, nm_e hp⟩⟩
  · refine ⟨-1, c, s, o, w, ho, fun post hp => ?_, fun post hp => ?_⟩
    · unfold wpX_restart
      dsimp only
      refine sd_xnn hn ?_
      exact br_t rfl hp
    · unfold wpY_restart
      dsimp only
      refine sd_ynn hn ?_
      exact br_t rfl hp

theorem sd_cut : ∀ d j : Nat, j + d = 3 → ∀ (x : Int32) (c s o w : Nat → Int32), sd_K o →
    ∃ (r : Int32) (c' s' o' w' : Nat → Int32), sd_K o' ∧
    (∀ post : Int32 → SX → Prop, post r (c', s', o', w') → wX_powerCut_4 post (d + 1) x (nI j) c s o w) ∧
    (∀ post : Int32 → SY → Prop, post r (c', s', o', w') → wY_powerCut_4 post (d + 1) x (nI j) c s o w) := by
  intro d
  induction d with
  | zero =>
    intro j hj x c s o w ho
    have h := sd_ge3 (j := j) (by omega)
    exact ⟨x, c, s, o, w, ho, fun _ hp => br_t h hp, fun _ hp => br_t h hp⟩
  | succ d ih =>
    intro j hj x c s o w ho
    have h := sd_nge3 (j := j) (by omega)
    have hi : vp_in (nI j) 3 := vp_in_nI (by omega) (by decide)
    obtain ⟨r1, c1, o1, ho1, hX1, hY1⟩ := sd_un (nI j) c s o w ho
    obtain ⟨r, c', s', o', w', ho', hX, hY⟩ := ih (j + 1) (by omega) (x + r1) c1 s o1 (upd w (nI j).toNatClampNeg (vp_nar .boolean 0)) ho1
    refine ⟨r, c', s', o', w', ho', fun post hp => br_f h ?_, fun post hp => br_f h ?_⟩
    · refine hX1 _ ?_
      dsimp only
      exact nm_e ⟨hi, nm_e (nm_r (nI_1 j) (hX post hp))⟩
    · refine hY1 _ ?_
      dsimp only
      exact nm_e ⟨hi, nm_e (nm_r (nI_1 j) (hY post hp))⟩
theorem sd_power (c s o w : Nat → Int32) (ho : sd_K o) : sd_B (fun post => wpX_powerCut post (c, s, o, w)) (fun post => wpY_powerCut post (c, s, o, w)) := by
  obtain ⟨r, c', s', o', w', ho', hX, hY⟩ := sd_cut 3 0 rfl 0 c s o w ho
  rw [nI_0] at hX hY
  exact ⟨r, c', s', o', w', ho', fun post hp => ⟨4, hX post hp⟩, fun post hp => ⟨4, hY post hp⟩⟩
end
section
theorem i_vc0 (k0 : Int32) : wpX_init (fun u => wpY_init (fun v => i_Rel 1 u v) k0) k0 := by
  obtain ⟨o', ho', hX, hY⟩ := sd_init 16 0 rfl (fun _ => 0) (fun _ => Or.inr sd_n00)
  rw [nI_0] at hX hY
  exact ⟨17, hX _ _ _ _ ⟨17, hY _ _ _ _ ⟨rfl, ho'⟩⟩⟩
theorem i_vc_read {k : Nat} {u : SX} {v : SY} (I : i_Rel k u v) (hk : k + 4 ≤ 2049) (v1 : Int32) (v2 : Int32) : wpX_read (fun r u' => wpY_read (fun r' v' => r' = r ∧ i_Rel (k + 4) u' v') v v1 v2) u v1 v2 := by
  obtain ⟨c, s, o, w⟩ := u
  obtain ⟨e, ho⟩ := I
  subst e
  have h := sd_use k (sd_read v1 v2 c s o w ho)
  exact h
theorem i_vc_write {k : Nat} {u : SX} {v : SY} (I : i_Rel k u v) (hk : k + 4 ≤ 2049) (v1 : Int32) (v2 : Int32) (v3 : Int32) : wpX_write (fun r u' => wpY_write (fun r' v' => r' = r ∧ i_Rel (k + 4) u' v') v v1 v2 v3) u v1 v2 v3 := by
  obtain ⟨c, s, o, w⟩ := u
  obtain ⟨e, ho⟩ := I
  subst e
  have h := sd_use k (sd_write v1 v2 v3 c s o w ho)
  exact h
theorem i_vc_swap {k : Nat} {u : SX} {v : SY} (I : i_Rel k u v) (hk : k + 4 ≤ 2049) (v1 : Int32) (v2 : Int32) (v3 : Int32) : wpX_swap (fun r u' => wpY_swap (fun r' v' => r' = r ∧ i_Rel (k + 4) u' v') v v1 v2 v3) u v1 v2 v3 := by
  obtain ⟨c, s, o, w⟩ := u
  obtain ⟨e, ho⟩ := I
  subst e
  have h := sd_use k (sd_swap v1 v2 v3 c s o w ho)
  exact h
theorem i_vc_sync {k : Nat} {u : SX} {v : SY} (I : i_Rel k u v) (hk : k + 4 ≤ 2049) (v1 : Int32) : wpX_sync (fun r u' => wpY_sync (fun r' v' => r' = r ∧ i_Rel (k + 4) u' v') v v1) u v1 := by
  obtain ⟨c, s, o, w⟩ := u
  obtain ⟨e, ho⟩ := I
  subst e
  have h := sd_use k (sd_sync v1 c s o w ho)
  exact h
theorem i_vc_crash {k : Nat} {u : SX} {v : SY} (I : i_Rel k u v) (hk : k + 4 ≤ 2049) (v1 : Int32) : wpX_crash (fun r u' => wpY_crash (fun r' v' => r' = r ∧ i_Rel (k + 4) u' v') v v1) u v1 := by
  obtain ⟨c, s, o, w⟩ := u
  obtain ⟨e, ho⟩ := I
  subst e
  have h := sd_use k (sd_crash v1 c s o w ho)
  exact h
theorem i_vc_crashInSync {k : Nat} {u : SX} {v : SY} (I : i_Rel k u v) (hk : k + 4 ≤ 2049) (v1 : Int32) (v2 : Int32) : wpX_crashInSync (fun r u' => wpY_crashInSync (fun r' v' => r' = r ∧ i_Rel (k + 4) u' v') v v1 (lw_bz v2)) u v1 (lw_bz v2) := by
  obtain ⟨c, s, o, w⟩ := u
  obtain ⟨e, ho⟩ := I
  subst e
  have h := sd_use k (sd_cis v1 (lw_bz v2) c s o w ho)
  exact h
theorem i_vc_restart {k : Nat} {u : SX} {v : SY} (I : i_Rel k u v) (hk : k + 4 ≤ 2049) (v1 : Int32) : wpX_restart (fun r u' => wpY_restart (fun r' v' => r' = r ∧ i_Rel (k + 4) u' v') v v1) u v1 := by
  obtain ⟨c, s, o, w⟩ := u
  obtain ⟨e, ho⟩ := I
  subst e
  have h := sd_use k (sd_restart v1 c s o w ho)
  exact h
theorem i_vc_powerCut {k : Nat} {u : SX} {v : SY} (I : i_Rel k u v) (hk : k + 4 ≤ 2049) : wpX_powerCut (fun r u' => wpY_powerCut (fun r' v' => r' = r ∧ i_Rel (k + 4) u' v') v) u := by
  obtain ⟨c, s, o, w⟩ := u
  obtain ⟨e, ho⟩ := I
  subst e
  have h := sd_use k (sd_power c s o w ho)
  exact h
theorem i_vc_content {k : Nat} {u : SX} {v : SY} (I : i_Rel k u v) (hk : k + 4 ≤ 2049) (v1 : Int32) : wpX_content (fun r => wpY_content (fun r' => r' = r ∧ i_Rel (k + 4) u v) v v1) u v1 := by
  obtain ⟨c, s, o, w⟩ := u
  obtain ⟨e, ho⟩ := I
  subst e
  unfold wpX_content wpY_content
  dsimp only
  by_cases hb : sd_L v1
  · refine sd_xl hb ?_
    refine br_f sd_10 ⟨sd_in16 hb, ?_⟩
    refine sd_yl hb ?_
    exact br_f sd_10 ⟨sd_in16 hb, rfl, rfl, ho⟩
  · refine sd_xll hb ?_
    refine br_t rfl ?_
    refine sd_yll hb ?_
    exact br_t rfl ⟨rfl, rfl, ho⟩
theorem i_vc_safe {k : Nat} {u : SX} {v : SY} (I : i_Rel k u v) (hk : k + 4 ≤ 2049) (v1 : Int32) : wpX_safe (fun r => wpY_safe (fun r' => r' = r ∧ i_Rel (k + 4) u v) v v1) u v1 := by
  obtain ⟨c, s, o, w⟩ := u
  obtain ⟨e, ho⟩ := I
  subst e
  unfold wpX_safe wpY_safe
  dsimp only
  by_cases hb : sd_L v1
  · refine sd_xl hb ?_
    refine br_f sd_10 ⟨sd_in16 hb, ?_⟩
    refine sd_yl hb ?_
    exact br_f sd_10 ⟨sd_in16 hb, rfl, rfl, ho⟩
  · refine sd_xll hb ?_
    refine br_t rfl ?_
    refine sd_yll hb ?_
    exact br_t rfl ⟨rfl, rfl, ho⟩
theorem i_vc_owner {k : Nat} {u : SX} {v : SY} (I : i_Rel k u v) (hk : k + 4 ≤ 2049) (v1 : Int32) : wpX_owner (fun r => wpY_owner (fun r' => r' = r ∧ i_Rel (k + 4) u v) v v1) u v1 := by
  obtain ⟨c, s, o, w⟩ := u
  obtain ⟨e, ho⟩ := I
  subst e
  unfold wpX_owner wpY_owner
  dsimp only
  by_cases hb : sd_L v1
  · refine sd_xl hb ?_
    refine br_f sd_10 ⟨sd_in16 hb, ?_⟩
    refine sd_yl hb ?_
    exact br_f sd_10 ⟨sd_in16 hb, rfl, rfl, ho⟩
  · refine sd_xll hb ?_
    refine br_t rfl ?_
    refine sd_yll hb ?_
    exact br_t rfl ⟨rfl, rfl, ho⟩
theorem i_vc_unsafe {k : Nat} {u : SX} {v : SY} (I : i_Rel k u v) (hk : k + 4 ≤ 2049) (v1 : Int32) : wpX_unsafe (fun r => wpY_unsafe (fun r' => r' = r ∧ i_Rel (k + 4) u v) v v1) u v1 := by
  obtain ⟨c, s, o, w⟩ := u
  obtain ⟨e, ho⟩ := I
  subst e
  unfold wpX_unsafe
  dsimp only
  by_cases hn : sd_N v1
  · obtain ⟨r, hX, hY⟩ := sd_cnt v1 c s o w
    refine sd_xn hn ?_
    refine br_f sd_10 ?_
    refine hX _ ?_
    refine sd_yu hn ?_
    exact hY _ ⟨rfl, rfl, ho⟩
  · refine sd_xnn hn ?_
    refine br_t rfl ?_
    unfold wpY_unsafe
    dsimp only
    refine sd_ynn hn ?_
    exact br_t rfl ⟨rfl, rfl, ho⟩
theorem i_vc_up {k : Nat} {u : SX} {v : SY} (I : i_Rel k u v) (hk : k + 4 ≤ 2049) (v1 : Int32) : wpX_up (fun r => wpY_up (fun r' => r' = r ∧ i_Rel (k + 4) u v) v v1) u v1 := by
  obtain ⟨c, s, o, w⟩ := u
  obtain ⟨e, ho⟩ := I
  subst e
  unfold wpX_up wpY_up
  dsimp only
  by_cases hn : sd_N v1
  · refine sd_xn hn ?_
    by_cases hw : w v1.toNatClampNeg = 0
    · refine br_f sd_10 ⟨sd_in3 hn, br_t hw ?_⟩
      refine sd_yn hn ?_
      exact br_f sd_10 ⟨sd_in3 hn, br_t hw ⟨rfl, rfl, ho⟩⟩
    · refine br_f sd_10 ⟨sd_in3 hn, br_f hw ?_⟩
      refine sd_yn hn ?_
      exact br_f sd_10 ⟨sd_in3 hn, br_f hw ⟨rfl, rfl, ho⟩⟩
  · refine sd_xnn hn ?_
    refine br_t rfl ?_
    refine sd_ynn hn ?_
    exact br_t rfl ⟨rfl, rfl, ho⟩
end
