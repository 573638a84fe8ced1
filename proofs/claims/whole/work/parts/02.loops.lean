theorem sd_init : ∀ d j : Nat, j + d = 16 → ∀ o : Nat → Int32, sd_K o → ∃ o' : Nat → Int32, sd_K o' ∧
    (∀ (post : SX → Prop) (c s w : Nat → Int32), post (c, s, o', w) → wX_init_37 post (d + 1) (nI j) c s o w) ∧
    (∀ (post : SY → Prop) (c s w : Nat → Int32), post (c, s, o', w) → wY_init_37 post (d + 1) (nI j) c s o w) := by
  intro d
  induction d with
  | zero =>
    intro j hj o ho
    have h := sd_ge (j := j) (by omega)
    exact ⟨o, ho, fun _ _ _ _ hp => br_t h hp, fun _ _ _ _ hp => br_t h hp⟩
  | succ d ih =>
    intro j hj o ho
    have h := sd_nge (j := j) (by omega)
    have hi : vp_in (nI j) 16 := vp_in_nI (by omega) (by decide)
    obtain ⟨o', ho', hX, hY⟩ := ih (j + 1) (by omega) (upd o (nI j).toNatClampNeg (-4)) (sd_upd ho _ (Or.inl rfl))
    exact ⟨o', ho', fun post c s w hp => br_f h ⟨hi, nm_e (nm_r (nI_1 j) (hX post c s w hp))⟩,
      fun post c s w hp => br_f h ⟨hi, nm_e (nm_r (nI_1 j) (hY post c s w hp))⟩⟩

theorem sd_keep (p q : Int32) (hq : ¬ q = 0) (c w : Nat → Int32) : ∀ d j : Nat, j + d = 16 → ∀ (x : Int32) (s o : Nat → Int32), sd_K o →
    ∃ (r : Int32) (s' o' : Nat → Int32), sd_K o' ∧
    (∀ post : Int32 → SX → Prop, post r (c, s', o', w) → wX_makeSafe_4 post p (d + 1) x (nI j) c s o w) ∧
    (∀ post : Int32 → SY → Prop, post r (c, s', o', w) → wY_settle_5 post p q (d + 1) x (nI j) c s o w) := by
  intro d
  induction d with
  | zero =>
    intro j hj x s o ho
    have h := sd_ge (j := j) (by omega)
    exact ⟨x, s, o, ho, fun _ hp => br_t h hp, fun _ hp => br_t h hp⟩
  | succ d ih =>
    intro j hj x s o ho
    have h := sd_nge (j := j) (by omega)
    have hi : vp_in (nI j) 16 := vp_in_nI (by omega) (by decide)
    by_cases e : o (nI j).toNatClampNeg = p
    · obtain ⟨r, s', o', ho', hX, hY⟩ := ih (j + 1) (by omega) (x + 1) (upd s (nI j).toNatClampNeg (c (nI j).toNatClampNeg)) (upd o (nI j).toNatClampNeg (-4)) (sd_upd ho _ (Or.inl rfl))
      exact ⟨r, s', o', ho',
        fun post hp => br_f h ⟨hi, br_t e ⟨hi, hi, nm_e ⟨hi, nm_e (nm_e (nm_r (nI_1 j) (hX post hp)))⟩⟩⟩,
        fun post hp => br_f h ⟨hi, br_t e (br_f hq ⟨hi, hi, nm_e ⟨hi, nm_e (nm_e (nm_r (nI_1 j) (hY post hp)))⟩⟩)⟩⟩
    · obtain ⟨r, s', o', ho', hX, hY⟩ := ih (j + 1) (by omega) x s o ho
      exact ⟨r, s', o', ho', fun post hp => br_f h ⟨hi, br_f e (nm_r (nI_1 j) (hX post hp))⟩,
        fun post hp => br_f h ⟨hi, br_f e (nm_r (nI_1 j) (hY post hp))⟩⟩

theorem sd_drop (p : Int32) (s w : Nat → Int32) : ∀ d j : Nat, j + d = 16 → ∀ (x : Int32) (c o : Nat → Int32), sd_K o →
    ∃ (r : Int32) (c' o' : Nat → Int32), sd_K o' ∧
    (∀ post : Int32 → SX → Prop, post r (c', s, o', w) → wX_undo_4 post p (d + 1) x (nI j) c s o w) ∧
    (∀ post : Int32 → SY → Prop, post r (c', s, o', w) → wY_settle_5 post p 0 (d + 1) x (nI j) c s o w) := by
  intro d
  induction d with
  | zero =>
    intro j hj x c o ho
    have h := sd_ge (j := j) (by omega)
    exact ⟨x, c, o, ho, fun _ hp => br_t h hp, fun _ hp => br_t h hp⟩
  | succ d ih =>
    intro j hj x c o ho
    have h := sd_nge (j := j) (by omega)
    have hi : vp_in (nI j) 16 := vp_in_nI (by omega) (by decide)
    by_cases e : o (nI j).toNatClampNeg = p
    · obtain ⟨r, c', o', ho', hX, hY⟩ := ih (j + 1) (by omega) (x + 1) (upd c (nI j).toNatClampNeg (s (nI j).toNatClampNeg)) (upd o (nI j).toNatClampNeg (-4)) (sd_upd ho _ (Or.inl rfl))
      exact ⟨r, c', o', ho',
        fun post hp => br_f h ⟨hi, br_t e ⟨hi, hi, nm_e ⟨hi, nm_e (nm_e (nm_r (nI_1 j) (hX post hp)))⟩⟩⟩,
        fun post hp => br_f h ⟨hi, br_t e (br_t rfl ⟨hi, hi, nm_e ⟨hi, nm_e (nm_e (nm_r (nI_1 j) (hY post hp)))⟩⟩)⟩⟩
    · obtain ⟨r, c', o', ho', hX, hY⟩ := ih (j + 1) (by omega) x c o ho
      exact ⟨r, c', o', ho', fun post hp => br_f h ⟨hi, br_f e (nm_r (nI_1 j) (hX post hp))⟩,
        fun post hp => br_f h ⟨hi, br_f e (nm_r (nI_1 j) (hY post hp))⟩⟩

theorem sd_count (p : Int32) (c s o w : Nat → Int32) : ∀ d j : Nat, j + d = 16 → ∀ x : Int32, ∃ r : Int32,
    (∀ post : Int32 → Prop, post r → wX_countUnsafe_4 post p c s o w (d + 1) x (nI j)) ∧
    (∀ post : Int32 → Prop, post r → wY_unsafe_14 post p c s o w (d + 1) x (nI j)) := by
  intro d
  induction d with
  | zero =>
    intro j hj x
    have h := sd_ge (j := j) (by omega)
    exact ⟨x, fun _ hp => br_t h hp, fun _ hp => br_t h hp⟩
  | succ d ih =>
    intro j hj x
    have h := sd_nge (j := j) (by omega)
    have hi : vp_in (nI j) 16 := vp_in_nI (by omega) (by decide)
    by_cases e : o (nI j).toNatClampNeg = p
    · obtain ⟨r, hX, hY⟩ := ih (j + 1) (by omega) (x + 1)
      exact ⟨r, fun post hp => br_f h ⟨hi, br_t e (nm_e (nm_r (nI_1 j) (hX post hp)))⟩,
        fun post hp => br_f h ⟨hi, br_t e (nm_e (nm_r (nI_1 j) (hY post hp)))⟩⟩
    · obtain ⟨r, hX, hY⟩ := ih (j + 1) (by omega) x
      exact ⟨r, fun post hp => br_f h ⟨hi, br_f e (nm_r (nI_1 j) (hX post hp))⟩,
        fun post hp => br_f h ⟨hi, br_f e (nm_r (nI_1 j) (hY post hp))⟩⟩

theorem sd_mk (p q : Int32) (hq : ¬ q = 0) (c s o w : Nat → Int32) (ho : sd_K o) : ∃ (r : Int32) (s' o' : Nat → Int32), sd_K o' ∧
    (∀ post : Int32 → SX → Prop, post r (c, s', o', w) → wpX_makeSafe post (c, s, o, w) p) ∧
    (∀ post : Int32 → SY → Prop, post r (c, s', o', w) → wpY_settle post (c, s, o, w) p q) := by
  obtain ⟨r, s', o', ho', hX, hY⟩ := sd_keep p q hq c w 16 0 rfl 0 s o ho
  rw [nI_0] at hX hY
  exact ⟨r, s', o', ho', fun post hp => ⟨17, hX post hp⟩, fun post hp => ⟨17, hY post hp⟩⟩
theorem sd_un (p : Int32) (c s o w : Nat → Int32) (ho : sd_K o) : ∃ (r : Int32) (c' o' : Nat → Int32), sd_K o' ∧
    (∀ post : Int32 → SX → Prop, post r (c', s, o', w) → wpX_undo post (c, s, o, w) p) ∧
    (∀ post : Int32 → SY → Prop, post r (c', s, o', w) → wpY_settle post (c, s, o, w) p 0) := by
  obtain ⟨r, c', o', ho', hX, hY⟩ := sd_drop p s w 16 0 rfl 0 c o ho
  rw [nI_0] at hX hY
  exact ⟨r, c', o', ho', fun post hp => ⟨17, hX post hp⟩, fun post hp => ⟨17, hY post hp⟩⟩
theorem sd_cnt (p : Int32) (c s o w : Nat → Int32) : ∃ r : Int32,
    (∀ post : Int32 → Prop, post r → wpX_countUnsafe post (c, s, o, w) p) ∧
    (∀ post : Int32 → Prop, post r → ∃ n : Nat, wY_unsafe_14 post p c s o w n 0 0) := by
  obtain ⟨r, hX, hY⟩ := sd_count p c s o w 16 0 rfl 0
  rw [nI_0] at hX hY
  exact ⟨r, fun post hp => ⟨17, hX post hp⟩, fun post hp => ⟨17, hY post hp⟩⟩
theorem sd_take (p b : Int32) (hb : vp_in b 16) (c s o w : Nat → Int32) (ho : sd_K o) : ∃ s' o' : Nat → Int32, sd_K o' ∧
    (∀ post : SX → Prop, post (c, s', o', w) → wpX_settleOtherOwner post (c, s, o, w) p b) ∧
    (∀ post : SY → Prop, post (c, s', o', w) → wpY_takeFromOthers post (c, s, o, w) p b) := by
  rcases ho b.toNatClampNeg with e4 | hn
  · have hl : o b.toNatClampNeg < 0 := by rw [e4]; exact sd_m4
    exact ⟨s, o, ho, fun post hp => ⟨hb, nm_e (br_t e4 hp)⟩, fun post hp => ⟨hb, br_t hl hp⟩⟩
  · have n4 : ¬ o b.toNatClampNeg = -4 := fun z => hn (by rw [z]; exact sd_m4)
    by_cases ep : o b.toNatClampNeg = p
    · exact ⟨s, o, ho, fun post hp => ⟨hb, nm_e (br_f n4 (br_t ep hp))⟩, fun post hp => ⟨hb, br_f hn ⟨hb, br_t ep hp⟩⟩⟩
    · obtain ⟨r, s', o', ho', hX, hY⟩ := sd_mk (o b.toNatClampNeg) 1 sd_10 c s o w ho
      exact ⟨s', o', ho', fun post hp => ⟨hb, nm_e (br_f n4 (br_f ep (hX _ hp)))⟩,
        fun post hp => ⟨hb, br_f hn ⟨hb, br_f ep ⟨hb, hY _ hp⟩⟩⟩⟩
