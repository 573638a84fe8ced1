/-- one answer and one state, in which every owner is nothing or not negative, that both walks reach -/
def sd_B (A : (Int32 → SX → Prop) → Prop) (B : (Int32 → SY → Prop) → Prop) : Prop :=
  ∃ (r : Int32) (c s o w : Nat → Int32), sd_K o ∧ (∀ post : Int32 → SX → Prop, post r (c, s, o, w) → A post) ∧ (∀ post : Int32 → SY → Prop, post r (c, s, o, w) → B post)
theorem sd_use {A : (Int32 → SX → Prop) → Prop} {B : (Int32 → SY → Prop) → Prop} (k : Nat) (h : sd_B A B) : A (fun r u' => B (fun r' v' => r' = r ∧ i_Rel (k + 4) u' v')) := by
  obtain ⟨r, c, s, o, w, ho, hX, hY⟩ := h
  exact hX _ (hY _ ⟨rfl, rfl, ho⟩)

theorem sd_read (p b : Int32) (c s o w : Nat → Int32) (ho : sd_K o) : sd_B (fun post => wpX_read post (c, s, o, w) p b) (fun post => wpY_read post (c, s, o, w) p b) := by
  by_cases hn : sd_N p
  · by_cases hb : sd_L b
    · by_cases hw : w p.toNatClampNeg = 0
      · obtain ⟨s', o', ho', hX, hY⟩ := sd_take p b (sd_in16 hb) c s o w ho
        refine ⟨c b.toNatClampNeg, c, s', o', w, ho', fun post hp => ?_, fun post hp => ?_⟩
        · unfold wpX_read
          dsimp only
          refine sd_xn hn ?_
          refine br_f sd_10 ?_
          refine sd_xl hb ?_
          refine br_f sd_10 ⟨sd_in3 hn, br_t hw ?_⟩
          refine hX _ ?_
          exact ⟨sd_in16 hb, hp⟩
        · unfold wpY_read
          dsimp only
          refine sd_yr4 hn hb hb hw ?_
          refine br_t sd_00 ?_
          refine hY _ ?_
          exact ⟨sd_in16 hb, hp⟩
      · refine ⟨-3, c, s, o, w, ho, fun post hp => ?_, fun post hp => ?_⟩
        · unfold wpX_read
          dsimp only
          refine sd_xn hn ?_
          refine br_f sd_10 ?_
          refine sd_xl hb ?_
          exact br_f sd_10 ⟨sd_in3 hn, br_f hw hp⟩
        · unfold wpY_read
          dsimp only
          refine sd_yr3 hn hb hb hw ?_
          exact br_f sd_r3 hp
    · refine ⟨-2, c, s, o, w, ho, fun post hp => ?_, fun post hp => ?_⟩
      · unfold wpX_read
        dsimp only
        refine sd_xn hn ?_
        refine br_f sd_10 ?_
        refine sd_xll hb ?_
        exact br_t rfl hp
      · unfold wpY_read
        dsimp only
        refine sd_yr2 hn (fun z => hb z.1) ?_
        exact br_f sd_r2 hp
  · refine ⟨-1, c, s, o, w, ho, fun post hp => ?_, fun post hp => ?_⟩
    · unfold wpX_read
      dsimp only
      refine sd_xnn hn ?_
      exact br_t rfl hp
    · unfold wpY_read
      dsimp only
      refine sd_yr1 hn ?_
      exact br_f sd_r1 hp

theorem sd_yu {p : Int32} {post : Int32 → Prop} {c s o w : Nat → Int32} (hn : sd_N p) (h : ∃ n : Nat, wY_unsafe_14 post p c s o w n 0 0) : wpY_unsafe post (c, s, o, w) p := by
  unfold wpY_unsafe
  dsimp only
  refine sd_yn hn ?_
  exact br_f sd_10 h

theorem sd_write (p b x : Int32) (c s o w : Nat → Int32) (ho : sd_K o) : sd_B (fun post => wpX_write post (c, s, o, w) p b x) (fun post => wpY_write post (c, s, o, w) p b x) := by
  by_cases hn : sd_N p
  · by_cases hb : sd_L b
    · by_cases hw : w p.toNatClampNeg = 0
      · obtain ⟨s', o', ho', hX, hY⟩ := sd_take p b (sd_in16 hb) c s o w ho
        obtain ⟨r, hXc, hYc⟩ := sd_cnt p (upd c b.toNatClampNeg x) s' (upd o' b.toNatClampNeg p) w
        refine ⟨r, upd c b.toNatClampNeg x, s', upd o' b.toNatClampNeg p, w, sd_upd ho' _ (Or.inr hn.1), fun post hp => ?_, fun post hp => ?_⟩
        · unfold wpX_write
          dsimp only
          refine sd_xn hn ?_
          refine br_f sd_10 ?_
          refine sd_xl hb ?_
          refine br_f sd_10 ⟨sd_in3 hn, br_t hw ?_⟩
          refine hX _ ?_
          refine ⟨sd_in16 hb, nm_e ⟨sd_in16 hb, nm_e ?_⟩⟩
          exact hXc _ hp
        · unfold wpY_write
          dsimp only
          refine sd_yr4 hn hb hb hw ?_
          refine br_t sd_00 ?_
          refine hY _ ?_
          refine ⟨sd_in16 hb, nm_e ⟨sd_in16 hb, nm_e ?_⟩⟩
          refine sd_yu hn ?_
          exact hYc _ hp
      · refine ⟨-3, c, s, o, w, ho, fun post hp => ?_, fun post hp => ?_⟩
        · unfold wpX_write
          dsimp only
          refine sd_xn hn ?_
          refine br_f sd_10 ?_
          refine sd_xl hb ?_
          exact br_f sd_10 ⟨sd_in3 hn, br_f hw hp⟩
        · unfold wpY_write
          dsimp only
          refine sd_yr3 hn hb hb hw ?_
          exact br_f sd_r3 hp
    · refine ⟨-2, c, s, o, w, ho, fun post hp => ?_, fun post hp => ?_⟩
      · unfold wpX_write
        dsimp only
        refine sd_xn hn ?_
        refine br_f sd_10 ?_
        refine sd_xll hb ?_
        exact br_t rfl hp
      · unfold wpY_write
        dsimp only
        refine sd_yr2 hn (fun z => hb z.1) ?_
        exact br_f sd_r2 hp
  · refine ⟨-1, c, s, o, w, ho, fun post hp => ?_, fun post hp => ?_⟩
    · unfold wpX_write
      dsimp only
      refine sd_xnn hn ?_
      exact br_t rfl hp
    · unfold wpY_write
      dsimp only
      refine sd_yr1 hn ?_
      exact br_f sd_r1 hp

theorem sd_swap (p a b : Int32) (c s o w : Nat → Int32) (ho : sd_K o) : sd_B (fun post => wpX_swap post (c, s, o, w) p a b) (fun post => wpY_swap post (c, s, o, w) p a b) := by
  by_cases hn : sd_N p
  · by_cases ha : sd_L a
    · by_cases hb : sd_L b
      · by_cases hw : w p.toNatClampNeg = 0
        · obtain ⟨r1, c1, s1, o1, w1, ho1, hX1, hY1⟩ := sd_read p a c s o w ho
          obtain ⟨r2, c2, s2, o2, w2, ho2, hX2, hY2⟩ := sd_read p b c1 s1 o1 w1 ho1
          obtain ⟨r3, c3, s3, o3, w3, ho3, hX3, hY3⟩ := sd_write p a r2 c2 s2 o2 w2 ho2
          obtain ⟨r4, c4, s4, o4, w4, ho4, hX4, hY4⟩ := sd_write p b r1 c3 s3 o3 w3 ho3
          refine ⟨r4, c4, s4, o4, w4, ho4, fun post hp => ?_, fun post hp => ?_⟩
          · unfold wpX_swap
            dsimp only
            refine sd_xn hn ?_
            refine br_f sd_10 ?_
            refine sd_xl ha ?_
            refine br_f sd_10 ?_
            refine sd_xl hb ?_
            refine br_f sd_10 ⟨sd_in3 hn, br_t hw ?_⟩
            refine hX1 _ ?_
            refine hX2 _ ?_
            refine hX3 _ ?_
            refine hX4 _ ?_
            exact hp
          · unfold wpY_swap
            dsimp only
            refine sd_yr4 hn ha hb hw ?_
            refine br_t sd_00 ?_
            refine hY1 _ ?_
            refine hY2 _ ?_
            refine hY3 _ ?_
            refine hY4 _ ?_
            exact hp
        · refine ⟨-3, c, s, o, w, ho, fun post hp => ?_, fun post hp => ?_⟩
          · unfold wpX_swap
            dsimp only
            refine sd_xn hn ?_
            refine br_f sd_10 ?_
            refine sd_xl ha ?_
            refine br_f sd_10 ?_
            refine sd_xl hb ?_
            exact br_f sd_10 ⟨sd_in3 hn, br_f hw hp⟩
          · unfold wpY_swap
            dsimp only
            refine sd_yr3 hn ha hb hw ?_
            exact br_f sd_r3 hp
      · refine ⟨-2, c, s, o, w, ho, fun post hp => ?_, fun post hp => ?_⟩
        · unfold wpX_swap
          dsimp only
          refine sd_xn hn ?_
          refine br_f sd_10 ?_
          refine sd_xl ha ?_
          refine br_f sd_10 ?_
          refine sd_xll hb ?_
          exact br_t rfl hp
        · unfold wpY_swap
          dsimp only
          refine sd_yr2 hn (fun z => hb z.2) ?_
          exact br_f sd_r2 hp
    · refine ⟨-2, c, s, o, w, ho, fun post hp => ?_, fun post hp => ?_⟩
      · unfold wpX_swap
        dsimp only
        refine sd_xn hn ?_
        refine br_f sd_10 ?_
        refine sd_xll ha ?_
        exact br_t rfl hp
      · unfold wpY_swap
        dsimp only
        refine sd_yr2 hn (fun z => ha z.1) ?_
        exact br_f sd_r2 hp
  · refine ⟨-1, c, s, o, w, ho, fun post hp => ?_, fun post hp => ?_⟩
    · unfold wpX_swap
      dsimp only
      refine sd_xnn hn ?_
      exact br_t rfl hp
    · unfold wpY_swap
      dsimp only
      refine sd_yr1 hn ?_
      exact br_f sd_r1 hp
