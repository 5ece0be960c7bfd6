/-! PURE: each method of the class answers, and keeps the shape of its cells (written by sgen.py) -/
theorem pX6_takeField {v : Nat → Nat} {G0 G : gH} {b : Nat} {O : Nat → Nat → Int32} {P : Nat → Nat → Int64} {a1 : Int32} {a2 : Int32} (h0 : Rch v G0 b O P 11 266 G) : Ok (fun r => (r.1 = 0 ∨ r.1 = 1) ∧ Rch v G0 b O P 11 266 r.2) (fX6_takeField v G (b + 24) a1 a2) := by
  unfold fX6_takeField
  obtain ⟨_, _, _, _, _, _, o1⟩ := h0.oH
  refine Ok.e (gOb_at o1) ?_
  refine Ok.e (gR_at o1 rfl) ?_
  refine Ok.b (h0.at_ rk3) (fun x2 _ => ?_)
  refine Ok.i (fun c2 => ?_) (fun c2 => ?_)
  · unfold jX6_takeField_23
    refine Ok.b (pX6_takeBy256 h0 ) (fun x1 h3 => ?_)
    refine Ok.e (gZ_ok (by first | assumption | exact And.left (by assumption))) ?_
    exact Ok.s ⟨(by first | exact Or.inl rfl | exact Or.inr rfl | assumption | exact And.left (by assumption)), h3.2⟩
  · refine Ok.i (fun c4 => ?_) (fun c4 => ?_)
    · unfold jX6_takeField_23
      refine Ok.b (pX6_takeBy256 h0 ) (fun x1 h5 => ?_)
      refine Ok.e (gZ_ok (by first | assumption | exact And.left (by assumption))) ?_
      exact Ok.s ⟨(by first | exact Or.inl rfl | exact Or.inr rfl | assumption | exact And.left (by assumption)), h5.2⟩
    · refine Ok.b (pX6_takeOctal h0 ) (fun x6 h6 => ?_)
      refine Ok.e (gZ_ok (by first | assumption | exact And.left (by assumption))) ?_
      exact Ok.s ⟨(by first | exact Or.inl rfl | exact Or.inr rfl | assumption | exact And.left (by assumption)), h6.2⟩
theorem pX6_keep {v : Nat → Nat} {G0 G : gH} {b : Nat} {O : Nat → Nat → Int32} {P : Nat → Nat → Int64} {a1 : Int32} (h0 : Rch v G0 b O P 11 266 G) : Ok (Rch v G0 b O P 11 266) (fX6_keep v G (b + 24) a1) := by
  unfold fX6_keep
  obtain ⟨_, _, _, _, _, _, o1⟩ := h0.oH
  refine Ok.e (gOb_at o1) ?_
  refine Ok.i (fun c2 => ?_) (fun c2 => ?_)
  · refine Ok.e (gJ_at o1 rfl) ?_
    refine Ok.b (h0.pj (tj_H (Or.inr (Or.inl rfl))) (by omega)) (fun G3 h3 => ?_)
    exact Ok.s h3
  · refine Ok.i (fun c4 => ?_) (fun c4 => ?_)
    · refine Ok.e (gJ_at o1 rfl) ?_
      refine Ok.b (h0.pj (tj_H (Or.inr (Or.inr (Or.inl rfl)))) (by omega)) (fun G6 h5 => ?_)
      exact Ok.s h5
    · refine Ok.i (fun c6 => ?_) (fun c6 => ?_)
      · refine Ok.e (gJ_at o1 rfl) ?_
        refine Ok.b (h0.pj (tj_H (Or.inr (Or.inr (Or.inr (Or.inl rfl))))) (by omega)) (fun G9 h7 => ?_)
        exact Ok.s h7
      · refine Ok.i (fun c8 => ?_) (fun c8 => ?_)
        · refine Ok.e (gJ_at o1 rfl) ?_
          refine Ok.b (h0.pj (tj_H (Or.inr (Or.inr (Or.inr (Or.inr (Or.inl rfl)))))) (by omega)) (fun G12 h9 => ?_)
          exact Ok.s h9
        · refine Ok.e (gJ_at o1 rfl) ?_
          refine Ok.b (h0.pj (tj_H (Or.inr (Or.inr (Or.inr (Or.inr (Or.inr (rfl))))))) (by omega)) (fun G14 h10 => ?_)
          exact Ok.s h10
theorem qX6_take_2 {v : Nat → Nat} {G0 G : gH} {b : Nat} {O : Nat → Nat → Int32} {P : Nat → Nat → Int64} (h0 : Rch v G0 b O P 11 266 G)  : ∀ (n : Nat) (y1 : Int32) (y2 : Int32), ¬ y2 < 0 → gap y2 5 < n → Ok (fun r => Rch v G0 b O P 11 266 r.2) (lX6_take_2 v n G (b + 24) y1 y2) := by
  have lp : ∀ (n : Nat) (G : gH) (y1 : Int32) (y2 : Int32), Rch v G0 b O P 11 266 G → ¬ y2 < 0 → gap y2 5 < n → Ok (fun r => Rch v G0 b O P 11 266 r.2) (lX6_take_2 v n G (b + 24) y1 y2) := by
    intro n
    induction n with
    | zero => intro G y1 y2 _ _ h; exact absurd h (Nat.not_lt_zero _)
    | succ n ih =>
      intro G y1 y2 h0 hv hm
      show Ok _ (bX6_take_2 v (lX6_take_2 v n) G (b + 24) y1 y2)
      unfold bX6_take_2
      refine Ok.e (len_at (tab4 h0)) ?_
      refine Ok.i (fun c2 => ?_) (fun c2 => ?_)
      · exact Ok.s h0
      · refine Ok.e (len_at (tab5 h0)) ?_
        refine Ok.i (fun c4 => ?_) (fun c4 => ?_)
        · exact Ok.s h0
        · refine Ok.b (ldtab (tab4 h0) (by assumption) (by assumption)) (fun _ _ => ?_)
          refine Ok.e rfl ?_
          refine Ok.b (ldtab (tab5 h0) (by assumption) (by assumption)) (fun _ _ => ?_)
          refine Ok.b (pX6_takeField h0 ) (fun x8 h5 => ?_)
          refine Ok.i (fun c6 => ?_) (fun c6 => ?_)
          · exact Ok.s h5.2
          · refine Ok.b (ldtab (tab4 h5.2) (by assumption) (by assumption)) (fun _ _ => ?_)
            refine Ok.i (fun c7 => ?_) (fun c7 => ?_)
            · obtain ⟨_, _, _, _, _, _, o8⟩ := h5.2.oH
              refine Ok.e (gJ_at o8 rfl) ?_
              refine Ok.i (fun c9 => ?_) (fun c9 => ?_)
              · unfold jX6_take_60
                refine Ok.b (ldtab (tab4 h5.2) (by assumption) (by assumption)) (fun _ _ => ?_)
                refine Ok.b (pX6_keep h5.2 ) (fun x2 h10 => ?_)
                refine Ok.e rfl ?_
                exact ih _ _ _ h10 (up5 (by assumption) (by assumption)) (by first | exact gap_up (by assumption) hm | exact gap_up' (by assumption) hm | exact dist_dn (by assumption) hm | exact dist_dn (n1 (by assumption)) hm | exact dist_dn (n2 (by assumption)) hm | exact gap_up' (lt40 (by assumption) (by assumption)) hm | exact gap_up' (le40 (by assumption) (by assumption)) hm | exact gap_up' (lt65 (by assumption)) hm | exact div10 (by assumption) hm)
              · exact Ok.s h5.2
            · unfold jX6_take_60
              refine Ok.b (ldtab (tab4 h5.2) (by assumption) (by assumption)) (fun _ _ => ?_)
              refine Ok.b (pX6_keep h5.2 ) (fun x2 h11 => ?_)
              refine Ok.e rfl ?_
              exact ih _ _ _ h11 (up5 (by assumption) (by assumption)) (by first | exact gap_up (by assumption) hm | exact gap_up' (by assumption) hm | exact dist_dn (by assumption) hm | exact dist_dn (n1 (by assumption)) hm | exact dist_dn (n2 (by assumption)) hm | exact gap_up' (lt40 (by assumption) (by assumption)) hm | exact gap_up' (le40 (by assumption) (by assumption)) hm | exact gap_up' (lt65 (by assumption)) hm | exact div10 (by assumption) hm)
  intro n y1 y2 hv hm
  exact lp n G y1 y2 h0 hv hm
theorem pX6_take {v : Nat → Nat} {G0 G : gH} {b : Nat} {O : Nat → Nat → Int32} {P : Nat → Nat → Int64} {a1 : Int32} (h0 : Rch v G0 b O P 11 266 G) : Ok (fun r => Rch v G0 b O P 11 266 r.2) (fX6_take v G (b + 24) a1) := by
  unfold fX6_take
  obtain ⟨_, _, _, _, _, _, o1⟩ := h0.oH
  refine Ok.e (gOb_at o1) ?_
  exact qX6_take_2 h0  gFu _ _ (by decide) (gap_fu _ _)
theorem pX10_isEntryKind {v : Nat → Nat} {G0 G : gH} {b : Nat} {O : Nat → Nat → Int32} {P : Nat → Nat → Int64} {lo hi : Nat} {a0 : Int32} (h0 : Rch v G0 b O P lo hi G) : Ok (fun x => x = 0 ∨ x = 1) (fX10_isEntryKind v G a0) := by
  unfold fX10_isEntryKind
  refine Ok.i (fun c1 => ?_) (fun c1 => ?_)
  · unfold jX10_isEntryKind_24
    refine Ok.e gZ_1 ?_
    exact Ok.s (by first | exact Or.inl rfl | exact Or.inr rfl | assumption | exact And.left (by assumption))
  · refine Ok.i (fun c2 => ?_) (fun c2 => ?_)
    · unfold jX10_isEntryKind_24
      refine Ok.e gZ_1 ?_
      exact Ok.s (by first | exact Or.inl rfl | exact Or.inr rfl | assumption | exact And.left (by assumption))
    · refine Ok.i (fun c3 => ?_) (fun c3 => ?_)
      · unfold jX10_isEntryKind_24
        refine Ok.e gZ_1 ?_
        exact Ok.s (by first | exact Or.inl rfl | exact Or.inr rfl | assumption | exact And.left (by assumption))
      · refine Ok.i (fun c4 => ?_) (fun c4 => ?_)
        · unfold jX10_isEntryKind_24
          refine Ok.e gZ_1 ?_
          exact Ok.s (by first | exact Or.inl rfl | exact Or.inr rfl | assumption | exact And.left (by assumption))
        · refine Ok.e gZ_0 ?_
          exact Ok.s (by first | exact Or.inl rfl | exact Or.inr rfl | assumption | exact And.left (by assumption))
theorem pX1_isAheadKind {v : Nat → Nat} {G0 G : gH} {b : Nat} {O : Nat → Nat → Int32} {P : Nat → Nat → Int64} {lo hi : Nat} {a0 : Int32} (h0 : Rch v G0 b O P lo hi G) : Ok (fun x => x = 0 ∨ x = 1) (fX1_isAheadKind v G a0) := by
  unfold fX1_isAheadKind
  refine Ok.i (fun c1 => ?_) (fun c1 => ?_)
  · unfold jX1_isAheadKind_24
    refine Ok.e gZ_1 ?_
    exact Ok.s (by first | exact Or.inl rfl | exact Or.inr rfl | assumption | exact And.left (by assumption))
  · refine Ok.i (fun c2 => ?_) (fun c2 => ?_)
    · unfold jX1_isAheadKind_24
      refine Ok.e gZ_1 ?_
      exact Ok.s (by first | exact Or.inl rfl | exact Or.inr rfl | assumption | exact And.left (by assumption))
    · refine Ok.i (fun c3 => ?_) (fun c3 => ?_)
      · unfold jX1_isAheadKind_24
        refine Ok.e gZ_1 ?_
        exact Ok.s (by first | exact Or.inl rfl | exact Or.inr rfl | assumption | exact And.left (by assumption))
      · refine Ok.i (fun c4 => ?_) (fun c4 => ?_)
        · unfold jX1_isAheadKind_24
          refine Ok.e gZ_1 ?_
          exact Ok.s (by first | exact Or.inl rfl | exact Or.inr rfl | assumption | exact And.left (by assumption))
        · refine Ok.e gZ_0 ?_
          exact Ok.s (by first | exact Or.inl rfl | exact Or.inr rfl | assumption | exact And.left (by assumption))
theorem pX1_pick {v : Nat → Nat} {G0 G : gH} {b : Nat} {O : Nat → Nat → Int32} {P : Nat → Nat → Int64} {lo hi : Nat} {a0 : Int64} {a1 : Int64} {a2 : Int64} (h0 : Rch v G0 b O P lo hi G) : Ok (fun _ => True) (fX1_pick v G a0 a1 a2) := by
  unfold fX1_pick
  refine Ok.i (fun c1 => ?_) (fun c1 => ?_)
  · refine Ok.i (fun c2 => ?_) (fun c2 => ?_)
    · exact Ok.s trivial
    · exact Ok.s trivial
  · exact Ok.s trivial
theorem pX10_filled {v : Nat → Nat} {G0 G : gH} {b : Nat} {O : Nat → Nat → Int32} {P : Nat → Nat → Int64} {lo hi : Nat} {a0 : Int32} (h0 : Rch v G0 b O P lo hi G) : Ok (fun _ => True) (fX10_filled v G a0) := by
  unfold fX10_filled
  exact Ok.s trivial
theorem pX1_hasMagic {v : Nat → Nat} {G0 G : gH} {b : Nat} {O : Nat → Nat → Int32} {P : Nat → Nat → Int64} {lo hi : Nat} {a1 : Int32} (h0 : Rch v G0 b O P lo hi G) : Ok (fun x => x = 0 ∨ x = 1) (fX1_hasMagic v G (b + 11) a1) := by
  unfold fX1_hasMagic
  obtain ⟨_, _, o1⟩ := h0.oD
  refine Ok.e (gOb_at o1) ?_
  refine Ok.e (gR_at o1 rfl) ?_
  refine Ok.b (h0.holds rk3 (h0.strs ⟨by decide, by decide⟩)) (fun x2 z2 => ?_)
  refine Ok.e (gZ_ok (by first | assumption | exact And.left (by assumption))) ?_
  exact Ok.s (by first | exact Or.inl rfl | exact Or.inr rfl | assumption | exact And.left (by assumption))
theorem pX1_addField {v : Nat → Nat} {G0 G : gH} {b : Nat} {O : Nat → Nat → Int32} {P : Nat → Nat → Int64} {a2 : Int32} {a3 : Int32} (h0 : Rch v G0 b O P 11 266 G) {kr : Nat} (hkr : rkB kr = true) (hlr : 26 ≤ kr ∧ kr + 2 ≤ 266) : Ok (Rch v G0 b O P 11 266) (fX1_addField v G (b + 11) (b + kr) a2 a3) := by
  have hrlkr := rkB_lt hkr
  unfold fX1_addField
  obtain ⟨_, _, o1⟩ := h0.oD
  refine Ok.e (gOb_at o1) ?_
  refine Ok.e (gR_at o1 rfl) ?_
  refine Ok.e (gR_at o1 rfl) ?_
  refine Ok.b (h0.find rk3) (fun x3 _ => ?_)
  refine Ok.b (h0.rop hkr (by omega) (s_addPart (h0.rs hkr) (h0.rs rk3) (by omega) _ _)) (fun x5 h2 => ?_)
  exact Ok.s h2
theorem pX1_takeName {v : Nat → Nat} {G0 G : gH} {b : Nat} {O : Nat → Nat → Int32} {P : Nat → Nat → Int64} {a2 : Int32} (h0 : Rch v G0 b O P 11 266 G) {kr : Nat} (hkr : rkB kr = true) (hlr : 26 ≤ kr ∧ kr + 2 ≤ 266) : Ok (Rch v G0 b O P 11 266) (fX1_takeName v G (b + 11) (b + kr) a2) := by
  have hrlkr := rkB_lt hkr
  unfold fX1_takeName
  obtain ⟨_, _, o1⟩ := h0.oD
  refine Ok.e (gOb_at o1) ?_
  refine Ok.b (h0.rop hkr (by omega) (s_empty (h0.rs hkr))) (fun x1 h2 => ?_)
  obtain ⟨_, _, o3⟩ := h2.oD
  refine Ok.e (gR_at o3 rfl) ?_
  obtain ⟨_, _, _, _, _, _, o4⟩ := h2.oA hA13
  refine Ok.e (gR_at o4 rfl) ?_
  refine Ok.b (h2.count (rkA1 hA13)) (fun x5 hu5 => ?_)
  refine Ok.i (fun c6 => ?_) (fun c6 => ?_)
  · refine Ok.e (gR_at o3 rfl) ?_
    obtain ⟨_, _, _, _, _, _, o7⟩ := h2.oA hA18
    refine Ok.e (gR_at o7 rfl) ?_
    unfold jX1_takeName_34
    refine Ok.b (h2.count (rkA1 hA18)) (fun x1 hu8 => ?_)
    refine Ok.i (fun c9 => ?_) (fun c9 => ?_)
    · refine Ok.b (pX1_hasMagic h2 ) (fun x4 h10 => ?_)
      refine Ok.i (fun c11 => ?_) (fun c11 => ?_)
      · unfold jX1_takeName_91
        refine Ok.b (h2.count hkr) (fun x1 hu12 => ?_)
        refine Ok.i (fun c13 => ?_) (fun c13 => ?_)
        · unfold jX1_takeName_104
          refine Ok.b (pX1_addField h2 (hkr) (by omega)) (fun x1 h14 => ?_)
          exact Ok.s h14
        · refine Ok.b (h2.rop hkr (by omega) (s_add (h2.rs hkr) _)) (fun x4 h15 => ?_)
          unfold jX1_takeName_104
          refine Ok.b (pX1_addField h15 (hkr) (by omega)) (fun x1 h16 => ?_)
          exact Ok.s h16
      · refine Ok.e (gR_at o3 rfl) ?_
        refine Ok.b (h2.at_ rk3) (fun x8 _ => ?_)
        refine Ok.i (fun c17 => ?_) (fun c17 => ?_)
        · refine Ok.b (pX1_addField h2 (hkr) (by omega)) (fun x11 h18 => ?_)
          unfold jX1_takeName_91
          refine Ok.b (h18.count hkr) (fun x1 hu19 => ?_)
          refine Ok.i (fun c20 => ?_) (fun c20 => ?_)
          · unfold jX1_takeName_104
            refine Ok.b (pX1_addField h18 (hkr) (by omega)) (fun x1 h21 => ?_)
            exact Ok.s h21
          · refine Ok.b (h18.rop hkr (by omega) (s_add (h18.rs hkr) _)) (fun x4 h22 => ?_)
            unfold jX1_takeName_104
            refine Ok.b (pX1_addField h22 (hkr) (by omega)) (fun x1 h23 => ?_)
            exact Ok.s h23
        · unfold jX1_takeName_91
          refine Ok.b (h2.count hkr) (fun x1 hu24 => ?_)
          refine Ok.i (fun c25 => ?_) (fun c25 => ?_)
          · unfold jX1_takeName_104
            refine Ok.b (pX1_addField h2 (hkr) (by omega)) (fun x1 h26 => ?_)
            exact Ok.s h26
          · refine Ok.b (h2.rop hkr (by omega) (s_add (h2.rs hkr) _)) (fun x4 h27 => ?_)
            unfold jX1_takeName_104
            refine Ok.b (pX1_addField h27 (hkr) (by omega)) (fun x1 h28 => ?_)
            exact Ok.s h28
    · refine Ok.b (h2.count (rkA1 hA18)) (fun x13 hu29 => ?_)
      refine Ok.b (h2.rop hkr (by omega) (s_addPart (h2.rs hkr) (h2.rs (rkA1 hA18)) (by omega) _ _)) (fun x15 h30 => ?_)
      exact Ok.s h30
  · refine Ok.e (gR_at o3 rfl) ?_
    refine Ok.e (gR_at o4 rfl) ?_
    unfold jX1_takeName_34
    refine Ok.b (h2.count (rkA1 hA13)) (fun x1 hu31 => ?_)
    refine Ok.i (fun c32 => ?_) (fun c32 => ?_)
    · refine Ok.b (pX1_hasMagic h2 ) (fun x4 h33 => ?_)
      refine Ok.i (fun c34 => ?_) (fun c34 => ?_)
      · unfold jX1_takeName_91
        refine Ok.b (h2.count hkr) (fun x1 hu35 => ?_)
        refine Ok.i (fun c36 => ?_) (fun c36 => ?_)
        · unfold jX1_takeName_104
          refine Ok.b (pX1_addField h2 (hkr) (by omega)) (fun x1 h37 => ?_)
          exact Ok.s h37
        · refine Ok.b (h2.rop hkr (by omega) (s_add (h2.rs hkr) _)) (fun x4 h38 => ?_)
          unfold jX1_takeName_104
          refine Ok.b (pX1_addField h38 (hkr) (by omega)) (fun x1 h39 => ?_)
          exact Ok.s h39
      · refine Ok.e (gR_at o3 rfl) ?_
        refine Ok.b (h2.at_ rk3) (fun x8 _ => ?_)
        refine Ok.i (fun c40 => ?_) (fun c40 => ?_)
        · refine Ok.b (pX1_addField h2 (hkr) (by omega)) (fun x11 h41 => ?_)
          unfold jX1_takeName_91
          refine Ok.b (h41.count hkr) (fun x1 hu42 => ?_)
          refine Ok.i (fun c43 => ?_) (fun c43 => ?_)
          · unfold jX1_takeName_104
            refine Ok.b (pX1_addField h41 (hkr) (by omega)) (fun x1 h44 => ?_)
            exact Ok.s h44
          · refine Ok.b (h41.rop hkr (by omega) (s_add (h41.rs hkr) _)) (fun x4 h45 => ?_)
            unfold jX1_takeName_104
            refine Ok.b (pX1_addField h45 (hkr) (by omega)) (fun x1 h46 => ?_)
            exact Ok.s h46
        · unfold jX1_takeName_91
          refine Ok.b (h2.count hkr) (fun x1 hu47 => ?_)
          refine Ok.i (fun c48 => ?_) (fun c48 => ?_)
          · unfold jX1_takeName_104
            refine Ok.b (pX1_addField h2 (hkr) (by omega)) (fun x1 h49 => ?_)
            exact Ok.s h49
          · refine Ok.b (h2.rop hkr (by omega) (s_add (h2.rs hkr) _)) (fun x4 h50 => ?_)
            unfold jX1_takeName_104
            refine Ok.b (pX1_addField h50 (hkr) (by omega)) (fun x1 h51 => ?_)
            exact Ok.s h51
    · refine Ok.b (h2.count (rkA1 hA13)) (fun x13 hu52 => ?_)
      refine Ok.b (h2.rop hkr (by omega) (s_addPart (h2.rs hkr) (h2.rs (rkA1 hA13)) (by omega) _ _)) (fun x15 h53 => ?_)
      exact Ok.s h53
theorem pX1_takeLink {v : Nat → Nat} {G0 G : gH} {b : Nat} {O : Nat → Nat → Int32} {P : Nat → Nat → Int64} {a2 : Int32} (h0 : Rch v G0 b O P 11 266 G) {kr : Nat} (hkr : rkB kr = true) (hlr : 26 ≤ kr ∧ kr + 2 ≤ 266) : Ok (Rch v G0 b O P 11 266) (fX1_takeLink v G (b + 11) (b + kr) a2) := by
  have hrlkr := rkB_lt hkr
  unfold fX1_takeLink
  obtain ⟨_, _, o1⟩ := h0.oD
  refine Ok.e (gOb_at o1) ?_
  refine Ok.b (h0.rop hkr (by omega) (s_empty (h0.rs hkr))) (fun x1 h2 => ?_)
  obtain ⟨_, _, o3⟩ := h2.oD
  refine Ok.e (gR_at o3 rfl) ?_
  obtain ⟨_, _, _, _, _, _, o4⟩ := h2.oA hA13
  refine Ok.e (gR_at o4 rfl) ?_
  refine Ok.b (h2.count (rkA3 hA13)) (fun x5 hu5 => ?_)
  refine Ok.i (fun c6 => ?_) (fun c6 => ?_)
  · refine Ok.e (gR_at o3 rfl) ?_
    obtain ⟨_, _, _, _, _, _, o7⟩ := h2.oA hA18
    refine Ok.e (gR_at o7 rfl) ?_
    unfold jX1_takeLink_34
    refine Ok.b (h2.count (rkA3 hA18)) (fun x1 hu8 => ?_)
    refine Ok.i (fun c9 => ?_) (fun c9 => ?_)
    · refine Ok.b (pX1_addField h2 (hkr) (by omega)) (fun x4 h10 => ?_)
      exact Ok.s h10
    · refine Ok.b (h2.count (rkA3 hA18)) (fun x6 hu11 => ?_)
      refine Ok.b (h2.rop hkr (by omega) (s_addPart (h2.rs hkr) (h2.rs (rkA3 hA18)) (by omega) _ _)) (fun x8 h12 => ?_)
      exact Ok.s h12
  · refine Ok.e (gR_at o3 rfl) ?_
    refine Ok.e (gR_at o4 rfl) ?_
    unfold jX1_takeLink_34
    refine Ok.b (h2.count (rkA3 hA13)) (fun x1 hu13 => ?_)
    refine Ok.i (fun c14 => ?_) (fun c14 => ?_)
    · refine Ok.b (pX1_addField h2 (hkr) (by omega)) (fun x4 h15 => ?_)
      exact Ok.s h15
    · refine Ok.b (h2.count (rkA3 hA13)) (fun x6 hu16 => ?_)
      refine Ok.b (h2.rop hkr (by omega) (s_addPart (h2.rs hkr) (h2.rs (rkA3 hA13)) (by omega) _ _)) (fun x8 h17 => ?_)
      exact Ok.s h17
theorem pX1_setValues {v : Nat → Nat} {G0 G : gH} {b : Nat} {O : Nat → Nat → Int32} {P : Nat → Nat → Int64} {a2 : Int32} {a3 : Int32} {a4 : Int64} (h0 : Rch v G0 b O P 11 266 G) {kn : Nat} (hkn : fkB kn = true) : Ok (Rch v G0 b O P 11 266) (fX1_setValues v G (b + 11) (b + kn) a2 a3 a4) := by
  have zn := fkB_iff.mp hkn
  unfold fX1_setValues
  obtain ⟨_, _, o1⟩ := h0.oD
  refine Ok.e (gOb_at o1) ?_
  refine Ok.e (gR_at o1 rfl) ?_
  obtain ⟨_, _, _, _, _, _, o2⟩ := h0.oA hA13
  refine Ok.e (gI_at o2 rfl) ?_
  refine Ok.i (fun c3 => ?_) (fun c3 => ?_)
  · refine Ok.e (gR_at o1 rfl) ?_
    unfold jX1_setValues_21
    have o4 := h0.oN hkn
    refine Ok.e (gR_at o4 rfl) ?_
    refine Ok.b (h0.sF (j := 0) hkn (by omega) (by decide)) (fun G2 h5 => ?_)
    have o6 := h5.oN hkn
    refine Ok.e (gR_at o6 rfl) ?_
    obtain ⟨_, _, o7⟩ := h5.oD
    refine Ok.e (gR_at o7 rfl) ?_
    obtain ⟨_, _, _, _, _, _, o8⟩ := h5.oH
    refine Ok.e (gJ_at o8 rfl) ?_
    refine Ok.b (h5.sF (j := 1) hkn (by omega) (by decide)) (fun G6 h9 => ?_)
    have o10 := h9.oN hkn
    refine Ok.e (gR_at o10 rfl) ?_
    obtain ⟨_, _, o11⟩ := h9.oD
    refine Ok.e (gR_at o11 rfl) ?_
    obtain ⟨_, _, _, _, _, _, o12⟩ := h9.oA hA13
    refine Ok.e (gJ_at o12 rfl) ?_
    refine Ok.e (gR_at o11 rfl) ?_
    obtain ⟨_, _, _, _, _, _, o13⟩ := h9.oA hA18
    refine Ok.e (gJ_at o13 rfl) ?_
    refine Ok.e (gR_at o11 rfl) ?_
    obtain ⟨_, _, _, _, _, _, o14⟩ := h9.oH
    refine Ok.e (gJ_at o14 rfl) ?_
    refine Ok.b (pX1_pick h9 ) (fun x14 h15 => ?_)
    refine Ok.b (h9.sF (j := 2) hkn (by omega) (by decide)) (fun G16 h16 => ?_)
    have o17 := h16.oN hkn
    refine Ok.e (gR_at o17 rfl) ?_
    obtain ⟨_, _, o18⟩ := h16.oD
    refine Ok.e (gR_at o18 rfl) ?_
    obtain ⟨_, _, _, _, _, _, o19⟩ := h16.oA hA13
    refine Ok.e (gJ_at o19 rfl) ?_
    refine Ok.e (gR_at o18 rfl) ?_
    obtain ⟨_, _, _, _, _, _, o20⟩ := h16.oA hA18
    refine Ok.e (gJ_at o20 rfl) ?_
    refine Ok.e (gR_at o18 rfl) ?_
    obtain ⟨_, _, _, _, _, _, o21⟩ := h16.oH
    refine Ok.e (gJ_at o21 rfl) ?_
    refine Ok.b (pX1_pick h16 ) (fun x24 h22 => ?_)
    refine Ok.b (h16.sF (j := 3) hkn (by omega) (by decide)) (fun G26 h23 => ?_)
    have o24 := h23.oN hkn
    refine Ok.e (gR_at o24 rfl) ?_
    refine Ok.b (h23.sF (j := 4) hkn (by omega) (by decide)) (fun G28 h25 => ?_)
    have o26 := h25.oN hkn
    refine Ok.e (gR_at o26 rfl) ?_
    obtain ⟨_, _, _, _, _, _, o27⟩ := h25.oA hA18
    refine Ok.e (gI_at o27 rfl) ?_
    refine Ok.i (fun c28 => ?_) (fun c28 => ?_)
    · obtain ⟨_, _, o29⟩ := h25.oD
      refine Ok.e (gR_at o29 rfl) ?_
      obtain ⟨_, _, _, _, _, _, o30⟩ := h25.oH
      refine Ok.e (gJ_at o30 rfl) ?_
      unfold jX1_setValues_140
      refine Ok.b (h25.sF (j := 5) hkn (by omega) (by decide)) (fun G1 h31 => ?_)
      have o32 := h31.oN hkn
      refine Ok.e (gR_at o32 rfl) ?_
      obtain ⟨_, _, _, _, _, _, o33⟩ := h31.oA hA18
      refine Ok.e (gI_at o33 rfl) ?_
      refine Ok.i (fun c34 => ?_) (fun c34 => ?_)
      · unfold jX1_setValues_164
        refine Ok.b (h31.sF (j := 6) hkn (by omega) (by decide)) (fun G1 h35 => ?_)
        have o36 := h35.oN hkn
        refine Ok.e (gR_at o36 rfl) ?_
        refine Ok.b (h35.sF (j := 7) hkn (by omega) (by decide)) (fun G3 h37 => ?_)
        have o38 := h37.oN hkn
        refine Ok.e (gR_at o38 rfl) ?_
        refine Ok.b (h37.sF (j := 8) hkn (by omega) (by decide)) (fun G5 h39 => ?_)
        have o40 := h39.oN hkn
        refine Ok.e (gR_at o40 rfl) ?_
        refine Ok.e (gR_at o40 rfl) ?_
        refine Ok.b (h39.count (rkN2 hkn)) (fun x8 hu41 => ?_)
        refine Ok.b (h39.sF (j := 9) hkn (by omega) (by decide)) (fun G10 h42 => ?_)
        have o43 := h42.oN hkn
        refine Ok.e (gR_at o43 rfl) ?_
        refine Ok.e (gR_at o43 rfl) ?_
        refine Ok.b (h42.count (rkN4 hkn)) (fun x13 hu44 => ?_)
        refine Ok.b (h42.sF (j := 10) hkn (by omega) (by decide)) (fun G15 h45 => ?_)
        exact Ok.s h45
      · refine Ok.e (gJ_at o33 rfl) ?_
        unfold jX1_setValues_164
        refine Ok.b (h31.sF (j := 6) hkn (by omega) (by decide)) (fun G1 h46 => ?_)
        have o47 := h46.oN hkn
        refine Ok.e (gR_at o47 rfl) ?_
        refine Ok.b (h46.sF (j := 7) hkn (by omega) (by decide)) (fun G3 h48 => ?_)
        have o49 := h48.oN hkn
        refine Ok.e (gR_at o49 rfl) ?_
        refine Ok.b (h48.sF (j := 8) hkn (by omega) (by decide)) (fun G5 h50 => ?_)
        have o51 := h50.oN hkn
        refine Ok.e (gR_at o51 rfl) ?_
        refine Ok.e (gR_at o51 rfl) ?_
        refine Ok.b (h50.count (rkN2 hkn)) (fun x8 hu52 => ?_)
        refine Ok.b (h50.sF (j := 9) hkn (by omega) (by decide)) (fun G10 h53 => ?_)
        have o54 := h53.oN hkn
        refine Ok.e (gR_at o54 rfl) ?_
        refine Ok.e (gR_at o54 rfl) ?_
        refine Ok.b (h53.count (rkN4 hkn)) (fun x13 hu55 => ?_)
        refine Ok.b (h53.sF (j := 10) hkn (by omega) (by decide)) (fun G15 h56 => ?_)
        exact Ok.s h56
    · refine Ok.e (gJ_at o27 rfl) ?_
      unfold jX1_setValues_140
      refine Ok.b (h25.sF (j := 5) hkn (by omega) (by decide)) (fun G1 h57 => ?_)
      have o58 := h57.oN hkn
      refine Ok.e (gR_at o58 rfl) ?_
      obtain ⟨_, _, _, _, _, _, o59⟩ := h57.oA hA18
      refine Ok.e (gI_at o59 rfl) ?_
      refine Ok.i (fun c60 => ?_) (fun c60 => ?_)
      · unfold jX1_setValues_164
        refine Ok.b (h57.sF (j := 6) hkn (by omega) (by decide)) (fun G1 h61 => ?_)
        have o62 := h61.oN hkn
        refine Ok.e (gR_at o62 rfl) ?_
        refine Ok.b (h61.sF (j := 7) hkn (by omega) (by decide)) (fun G3 h63 => ?_)
        have o64 := h63.oN hkn
        refine Ok.e (gR_at o64 rfl) ?_
        refine Ok.b (h63.sF (j := 8) hkn (by omega) (by decide)) (fun G5 h65 => ?_)
        have o66 := h65.oN hkn
        refine Ok.e (gR_at o66 rfl) ?_
        refine Ok.e (gR_at o66 rfl) ?_
        refine Ok.b (h65.count (rkN2 hkn)) (fun x8 hu67 => ?_)
        refine Ok.b (h65.sF (j := 9) hkn (by omega) (by decide)) (fun G10 h68 => ?_)
        have o69 := h68.oN hkn
        refine Ok.e (gR_at o69 rfl) ?_
        refine Ok.e (gR_at o69 rfl) ?_
        refine Ok.b (h68.count (rkN4 hkn)) (fun x13 hu70 => ?_)
        refine Ok.b (h68.sF (j := 10) hkn (by omega) (by decide)) (fun G15 h71 => ?_)
        exact Ok.s h71
      · refine Ok.e (gJ_at o59 rfl) ?_
        unfold jX1_setValues_164
        refine Ok.b (h57.sF (j := 6) hkn (by omega) (by decide)) (fun G1 h72 => ?_)
        have o73 := h72.oN hkn
        refine Ok.e (gR_at o73 rfl) ?_
        refine Ok.b (h72.sF (j := 7) hkn (by omega) (by decide)) (fun G3 h74 => ?_)
        have o75 := h74.oN hkn
        refine Ok.e (gR_at o75 rfl) ?_
        refine Ok.b (h74.sF (j := 8) hkn (by omega) (by decide)) (fun G5 h76 => ?_)
        have o77 := h76.oN hkn
        refine Ok.e (gR_at o77 rfl) ?_
        refine Ok.e (gR_at o77 rfl) ?_
        refine Ok.b (h76.count (rkN2 hkn)) (fun x8 hu78 => ?_)
        refine Ok.b (h76.sF (j := 9) hkn (by omega) (by decide)) (fun G10 h79 => ?_)
        have o80 := h79.oN hkn
        refine Ok.e (gR_at o80 rfl) ?_
        refine Ok.e (gR_at o80 rfl) ?_
        refine Ok.b (h79.count (rkN4 hkn)) (fun x13 hu81 => ?_)
        refine Ok.b (h79.sF (j := 10) hkn (by omega) (by decide)) (fun G15 h82 => ?_)
        exact Ok.s h82
  · refine Ok.e (gR_at o1 rfl) ?_
    unfold jX1_setValues_21
    have o83 := h0.oN hkn
    refine Ok.e (gR_at o83 rfl) ?_
    refine Ok.b (h0.sF (j := 0) hkn (by omega) (by decide)) (fun G2 h84 => ?_)
    have o85 := h84.oN hkn
    refine Ok.e (gR_at o85 rfl) ?_
    obtain ⟨_, _, o86⟩ := h84.oD
    refine Ok.e (gR_at o86 rfl) ?_
    obtain ⟨_, _, _, _, _, _, o87⟩ := h84.oH
    refine Ok.e (gJ_at o87 rfl) ?_
    refine Ok.b (h84.sF (j := 1) hkn (by omega) (by decide)) (fun G6 h88 => ?_)
    have o89 := h88.oN hkn
    refine Ok.e (gR_at o89 rfl) ?_
    obtain ⟨_, _, o90⟩ := h88.oD
    refine Ok.e (gR_at o90 rfl) ?_
    obtain ⟨_, _, _, _, _, _, o91⟩ := h88.oA hA13
    refine Ok.e (gJ_at o91 rfl) ?_
    refine Ok.e (gR_at o90 rfl) ?_
    obtain ⟨_, _, _, _, _, _, o92⟩ := h88.oA hA18
    refine Ok.e (gJ_at o92 rfl) ?_
    refine Ok.e (gR_at o90 rfl) ?_
    obtain ⟨_, _, _, _, _, _, o93⟩ := h88.oH
    refine Ok.e (gJ_at o93 rfl) ?_
    refine Ok.b (pX1_pick h88 ) (fun x14 h94 => ?_)
    refine Ok.b (h88.sF (j := 2) hkn (by omega) (by decide)) (fun G16 h95 => ?_)
    have o96 := h95.oN hkn
    refine Ok.e (gR_at o96 rfl) ?_
    obtain ⟨_, _, o97⟩ := h95.oD
    refine Ok.e (gR_at o97 rfl) ?_
    obtain ⟨_, _, _, _, _, _, o98⟩ := h95.oA hA13
    refine Ok.e (gJ_at o98 rfl) ?_
    refine Ok.e (gR_at o97 rfl) ?_
    obtain ⟨_, _, _, _, _, _, o99⟩ := h95.oA hA18
    refine Ok.e (gJ_at o99 rfl) ?_
    refine Ok.e (gR_at o97 rfl) ?_
    obtain ⟨_, _, _, _, _, _, o100⟩ := h95.oH
    refine Ok.e (gJ_at o100 rfl) ?_
    refine Ok.b (pX1_pick h95 ) (fun x24 h101 => ?_)
    refine Ok.b (h95.sF (j := 3) hkn (by omega) (by decide)) (fun G26 h102 => ?_)
    have o103 := h102.oN hkn
    refine Ok.e (gR_at o103 rfl) ?_
    refine Ok.b (h102.sF (j := 4) hkn (by omega) (by decide)) (fun G28 h104 => ?_)
    have o105 := h104.oN hkn
    refine Ok.e (gR_at o105 rfl) ?_
    obtain ⟨_, _, _, _, _, _, o106⟩ := h104.oA hA13
    refine Ok.e (gI_at o106 rfl) ?_
    refine Ok.i (fun c107 => ?_) (fun c107 => ?_)
    · obtain ⟨_, _, o108⟩ := h104.oD
      refine Ok.e (gR_at o108 rfl) ?_
      obtain ⟨_, _, _, _, _, _, o109⟩ := h104.oH
      refine Ok.e (gJ_at o109 rfl) ?_
      unfold jX1_setValues_140
      refine Ok.b (h104.sF (j := 5) hkn (by omega) (by decide)) (fun G1 h110 => ?_)
      have o111 := h110.oN hkn
      refine Ok.e (gR_at o111 rfl) ?_
      obtain ⟨_, _, _, _, _, _, o112⟩ := h110.oA hA13
      refine Ok.e (gI_at o112 rfl) ?_
      refine Ok.i (fun c113 => ?_) (fun c113 => ?_)
      · unfold jX1_setValues_164
        refine Ok.b (h110.sF (j := 6) hkn (by omega) (by decide)) (fun G1 h114 => ?_)
        have o115 := h114.oN hkn
        refine Ok.e (gR_at o115 rfl) ?_
        refine Ok.b (h114.sF (j := 7) hkn (by omega) (by decide)) (fun G3 h116 => ?_)
        have o117 := h116.oN hkn
        refine Ok.e (gR_at o117 rfl) ?_
        refine Ok.b (h116.sF (j := 8) hkn (by omega) (by decide)) (fun G5 h118 => ?_)
        have o119 := h118.oN hkn
        refine Ok.e (gR_at o119 rfl) ?_
        refine Ok.e (gR_at o119 rfl) ?_
        refine Ok.b (h118.count (rkN2 hkn)) (fun x8 hu120 => ?_)
        refine Ok.b (h118.sF (j := 9) hkn (by omega) (by decide)) (fun G10 h121 => ?_)
        have o122 := h121.oN hkn
        refine Ok.e (gR_at o122 rfl) ?_
        refine Ok.e (gR_at o122 rfl) ?_
        refine Ok.b (h121.count (rkN4 hkn)) (fun x13 hu123 => ?_)
        refine Ok.b (h121.sF (j := 10) hkn (by omega) (by decide)) (fun G15 h124 => ?_)
        exact Ok.s h124
      · refine Ok.e (gJ_at o112 rfl) ?_
        unfold jX1_setValues_164
        refine Ok.b (h110.sF (j := 6) hkn (by omega) (by decide)) (fun G1 h125 => ?_)
        have o126 := h125.oN hkn
        refine Ok.e (gR_at o126 rfl) ?_
        refine Ok.b (h125.sF (j := 7) hkn (by omega) (by decide)) (fun G3 h127 => ?_)
        have o128 := h127.oN hkn
        refine Ok.e (gR_at o128 rfl) ?_
        refine Ok.b (h127.sF (j := 8) hkn (by omega) (by decide)) (fun G5 h129 => ?_)
        have o130 := h129.oN hkn
        refine Ok.e (gR_at o130 rfl) ?_
        refine Ok.e (gR_at o130 rfl) ?_
        refine Ok.b (h129.count (rkN2 hkn)) (fun x8 hu131 => ?_)
        refine Ok.b (h129.sF (j := 9) hkn (by omega) (by decide)) (fun G10 h132 => ?_)
        have o133 := h132.oN hkn
        refine Ok.e (gR_at o133 rfl) ?_
        refine Ok.e (gR_at o133 rfl) ?_
        refine Ok.b (h132.count (rkN4 hkn)) (fun x13 hu134 => ?_)
        refine Ok.b (h132.sF (j := 10) hkn (by omega) (by decide)) (fun G15 h135 => ?_)
        exact Ok.s h135
    · refine Ok.e (gJ_at o106 rfl) ?_
      unfold jX1_setValues_140
      refine Ok.b (h104.sF (j := 5) hkn (by omega) (by decide)) (fun G1 h136 => ?_)
      have o137 := h136.oN hkn
      refine Ok.e (gR_at o137 rfl) ?_
      obtain ⟨_, _, _, _, _, _, o138⟩ := h136.oA hA13
      refine Ok.e (gI_at o138 rfl) ?_
      refine Ok.i (fun c139 => ?_) (fun c139 => ?_)
      · unfold jX1_setValues_164
        refine Ok.b (h136.sF (j := 6) hkn (by omega) (by decide)) (fun G1 h140 => ?_)
        have o141 := h140.oN hkn
        refine Ok.e (gR_at o141 rfl) ?_
        refine Ok.b (h140.sF (j := 7) hkn (by omega) (by decide)) (fun G3 h142 => ?_)
        have o143 := h142.oN hkn
        refine Ok.e (gR_at o143 rfl) ?_
        refine Ok.b (h142.sF (j := 8) hkn (by omega) (by decide)) (fun G5 h144 => ?_)
        have o145 := h144.oN hkn
        refine Ok.e (gR_at o145 rfl) ?_
        refine Ok.e (gR_at o145 rfl) ?_
        refine Ok.b (h144.count (rkN2 hkn)) (fun x8 hu146 => ?_)
        refine Ok.b (h144.sF (j := 9) hkn (by omega) (by decide)) (fun G10 h147 => ?_)
        have o148 := h147.oN hkn
        refine Ok.e (gR_at o148 rfl) ?_
        refine Ok.e (gR_at o148 rfl) ?_
        refine Ok.b (h147.count (rkN4 hkn)) (fun x13 hu149 => ?_)
        refine Ok.b (h147.sF (j := 10) hkn (by omega) (by decide)) (fun G15 h150 => ?_)
        exact Ok.s h150
      · refine Ok.e (gJ_at o138 rfl) ?_
        unfold jX1_setValues_164
        refine Ok.b (h136.sF (j := 6) hkn (by omega) (by decide)) (fun G1 h151 => ?_)
        have o152 := h151.oN hkn
        refine Ok.e (gR_at o152 rfl) ?_
        refine Ok.b (h151.sF (j := 7) hkn (by omega) (by decide)) (fun G3 h153 => ?_)
        have o154 := h153.oN hkn
        refine Ok.e (gR_at o154 rfl) ?_
        refine Ok.b (h153.sF (j := 8) hkn (by omega) (by decide)) (fun G5 h155 => ?_)
        have o156 := h155.oN hkn
        refine Ok.e (gR_at o156 rfl) ?_
        refine Ok.e (gR_at o156 rfl) ?_
        refine Ok.b (h155.count (rkN2 hkn)) (fun x8 hu157 => ?_)
        refine Ok.b (h155.sF (j := 9) hkn (by omega) (by decide)) (fun G10 h158 => ?_)
        have o159 := h158.oN hkn
        refine Ok.e (gR_at o159 rfl) ?_
        refine Ok.e (gR_at o159 rfl) ?_
        refine Ok.b (h158.count (rkN4 hkn)) (fun x13 hu160 => ?_)
        refine Ok.b (h158.sF (j := 10) hkn (by omega) (by decide)) (fun G15 h161 => ?_)
        exact Ok.s h161
theorem pX9_isPartEnd {v : Nat → Nat} {G0 G : gH} {b : Nat} {O : Nat → Nat → Int32} {P : Nat → Nat → Int64} {lo hi : Nat} {a1 : Int32} (h0 : Rch v G0 b O P lo hi G) {kr : Nat} (hkr : rkB kr = true) : Ok (fun x => x = 0 ∨ x = 1) (fX9_isPartEnd v G (b + kr) a1) := by
  have hrlkr := rkB_lt hkr
  unfold fX9_isPartEnd
  refine Ok.b (h0.count hkr) (fun x1 hu1 => ?_)
  refine Ok.i (fun c2 => ?_) (fun c2 => ?_)
  · unfold jX9_isPartEnd_18
    refine Ok.e gZ_1 ?_
    exact Ok.s (by first | exact Or.inl rfl | exact Or.inr rfl | assumption | exact And.left (by assumption))
  · refine Ok.b (h0.at_ hkr) (fun x4 _ => ?_)
    refine Ok.i (fun c3 => ?_) (fun c3 => ?_)
    · unfold jX9_isPartEnd_18
      refine Ok.e gZ_1 ?_
      exact Ok.s (by first | exact Or.inl rfl | exact Or.inr rfl | assumption | exact And.left (by assumption))
    · refine Ok.e gZ_0 ?_
      exact Ok.s (by first | exact Or.inl rfl | exact Or.inr rfl | assumption | exact And.left (by assumption))
theorem pX9_step {v : Nat → Nat} {G0 G : gH} {b : Nat} {O : Nat → Nat → Int32} {P : Nat → Nat → Int64} {lo hi : Nat} {a1 : Int32} {a2 : Int32} (h0 : Rch v G0 b O P lo hi G) {kr : Nat} (hkr : rkB kr = true) : Ok (fun _ => True) (fX9_step v G (b + kr) a1 a2) := by
  have hrlkr := rkB_lt hkr
  unfold fX9_step
  refine Ok.i (fun c1 => ?_) (fun c1 => ?_)
  · exact Ok.s trivial
  · refine Ok.i (fun c2 => ?_) (fun c2 => ?_)
    · refine Ok.b (h0.at_ hkr) (fun x3 _ => ?_)
      refine Ok.i (fun c3 => ?_) (fun c3 => ?_)
      · exact Ok.s trivial
      · unfold jX9_step_24
        refine Ok.i (fun c4 => ?_) (fun c4 => ?_)
        · refine Ok.b (h0.at_ hkr) (fun x2 _ => ?_)
          refine Ok.i (fun c5 => ?_) (fun c5 => ?_)
          · refine Ok.b (h0.at_ hkr) (fun x5 _ => ?_)
            refine Ok.i (fun c6 => ?_) (fun c6 => ?_)
            · exact Ok.s trivial
            · exact Ok.s trivial
          · exact Ok.s trivial
        · exact Ok.s trivial
    · unfold jX9_step_24
      refine Ok.i (fun c7 => ?_) (fun c7 => ?_)
      · refine Ok.b (h0.at_ hkr) (fun x2 _ => ?_)
        refine Ok.i (fun c8 => ?_) (fun c8 => ?_)
        · refine Ok.b (h0.at_ hkr) (fun x5 _ => ?_)
          refine Ok.i (fun c9 => ?_) (fun c9 => ?_)
          · exact Ok.s trivial
          · exact Ok.s trivial
        · exact Ok.s trivial
      · exact Ok.s trivial
theorem qX9_hasUp_4 {v : Nat → Nat} {G0 G : gH} {b : Nat} {O : Nat → Nat → Int32} {P : Nat → Nat → Int64} {lo hi : Nat} (h0 : Rch v G0 b O P lo hi G) {kr : Nat} (hkr : rkB kr = true)  : ∀ (n : Nat) (y1 : Int32) (y2 : Int32), gap y2 40000 < n → Ok (fun x => x = 0 ∨ x = 1) (lX9_hasUp_4 v G n (b + kr) y1 y2) := by
  have hrlkr := rkB_lt hkr
  intro n
  induction n with
  | zero => intro y1 y2 h; exact absurd h (Nat.not_lt_zero _)
  | succ n ih =>
    intro y1 y2 hm
    show Ok _ (bX9_hasUp_4 v G (lX9_hasUp_4 v G n) (b + kr) y1 y2)
    unfold bX9_hasUp_4
    refine Ok.b (h0.count hkr) (fun x1 hu1 => ?_)
    refine Ok.i (fun c2 => ?_) (fun c2 => ?_)
    · refine Ok.e gZ_0 ?_
      exact Ok.s (by first | exact Or.inl rfl | exact Or.inr rfl | assumption | exact And.left (by assumption))
    · refine Ok.b (pX9_isPartEnd h0 (hkr)) (fun x5 h3 => ?_)
      refine Ok.i (fun c4 => ?_) (fun c4 => ?_)
      · unfold jX9_hasUp_35
        refine Ok.e rfl ?_
        exact ih _ _   (gap_up' (lt40 (by assumption) (by assumption)) hm)
      · refine Ok.b (pX9_step h0 (hkr)) (fun x8 h5 => ?_)
        refine Ok.i (fun c6 => ?_) (fun c6 => ?_)
        · refine Ok.e rfl ?_
          unfold jX9_hasUp_35
          refine Ok.e rfl ?_
          exact ih _ _   (gap_up' (lt40 (by assumption) (by assumption)) hm)
        · refine Ok.e gZ_1 ?_
          exact Ok.s (by first | exact Or.inl rfl | exact Or.inr rfl | assumption | exact And.left (by assumption))
theorem pX9_hasUp {v : Nat → Nat} {G0 G : gH} {b : Nat} {O : Nat → Nat → Int32} {P : Nat → Nat → Int64} {lo hi : Nat}  (h0 : Rch v G0 b O P lo hi G) {kr : Nat} (hkr : rkB kr = true) : Ok (fun x => x = 0 ∨ x = 1) (fX9_hasUp v G (b + kr)) := by
  have hrlkr := rkB_lt hkr
  unfold fX9_hasUp
  exact qX9_hasUp_4 h0 (hkr) gFu _ _ (gap_fu _ _)
theorem qX9_heightOf_6 {v : Nat → Nat} {G0 G : gH} {b : Nat} {O : Nat → Nat → Int32} {P : Nat → Nat → Int64} {lo hi : Nat} (h0 : Rch v G0 b O P lo hi G) {kr : Nat} (hkr : rkB kr = true)  : ∀ (n : Nat) (y1 : Int32) (y2 : Int32) (y3 : Int32), gap y3 40000 < n → Ok (fun _ => True) (lX9_heightOf_6 v G n (b + kr) y1 y2 y3) := by
  have hrlkr := rkB_lt hkr
  intro n
  induction n with
  | zero => intro y1 y2 y3 h; exact absurd h (Nat.not_lt_zero _)
  | succ n ih =>
    intro y1 y2 y3 hm
    show Ok _ (bX9_heightOf_6 v G (lX9_heightOf_6 v G n) (b + kr) y1 y2 y3)
    unfold bX9_heightOf_6
    refine Ok.b (h0.count hkr) (fun x1 hu1 => ?_)
    refine Ok.i (fun c2 => ?_) (fun c2 => ?_)
    · exact Ok.s trivial
    · refine Ok.b (pX9_isPartEnd h0 (hkr)) (fun x4 h3 => ?_)
      refine Ok.i (fun c4 => ?_) (fun c4 => ?_)
      · unfold jX9_heightOf_39
        refine Ok.e rfl ?_
        exact ih _ _ _   (gap_up' (le40 (by assumption) (by assumption)) hm)
      · refine Ok.b (pX9_step h0 (hkr)) (fun x7 h5 => ?_)
        refine Ok.e rfl ?_
        refine Ok.e rfl ?_
        unfold jX9_heightOf_39
        refine Ok.e rfl ?_
        exact ih _ _ _   (gap_up' (le40 (by assumption) (by assumption)) hm)
theorem pX9_heightOf {v : Nat → Nat} {G0 G : gH} {b : Nat} {O : Nat → Nat → Int32} {P : Nat → Nat → Int64} {lo hi : Nat}  (h0 : Rch v G0 b O P lo hi G) {kr : Nat} (hkr : rkB kr = true) : Ok (fun _ => True) (fX9_heightOf v G (b + kr)) := by
  have hrlkr := rkB_lt hkr
  unfold fX9_heightOf
  exact qX9_heightOf_6 h0 (hkr) gFu _ _ _ (gap_fu _ _)
theorem qX9_comesBelow_7 {v : Nat → Nat} {G0 G : gH} {b : Nat} {O : Nat → Nat → Int32} {P : Nat → Nat → Int64} {lo hi : Nat} (h0 : Rch v G0 b O P lo hi G) {kr : Nat} (hkr : rkB kr = true)  : ∀ (n : Nat) (y2 : Int32) (y3 : Int32) (y4 : Int32), gap y4 40000 < n → Ok (fun x => x = 0 ∨ x = 1) (lX9_comesBelow_7 v G n (b + kr) y2 y3 y4) := by
  have hrlkr := rkB_lt hkr
  intro n
  induction n with
  | zero => intro y2 y3 y4 h; exact absurd h (Nat.not_lt_zero _)
  | succ n ih =>
    intro y2 y3 y4 hm
    show Ok _ (bX9_comesBelow_7 v G (lX9_comesBelow_7 v G n) (b + kr) y2 y3 y4)
    unfold bX9_comesBelow_7
    refine Ok.b (h0.count hkr) (fun x1 hu1 => ?_)
    refine Ok.i (fun c2 => ?_) (fun c2 => ?_)
    · refine Ok.e gZ_0 ?_
      exact Ok.s (by first | exact Or.inl rfl | exact Or.inr rfl | assumption | exact And.left (by assumption))
    · refine Ok.b (pX9_isPartEnd h0 (hkr)) (fun x5 h3 => ?_)
      refine Ok.i (fun c4 => ?_) (fun c4 => ?_)
      · unfold jX9_comesBelow_40
        refine Ok.i (fun c5 => ?_) (fun c5 => ?_)
        · refine Ok.e rfl ?_
          exact ih _ _ _   (gap_up' (lt40 (by assumption) (by assumption)) hm)
        · refine Ok.e gZ_1 ?_
          exact Ok.s (by first | exact Or.inl rfl | exact Or.inr rfl | assumption | exact And.left (by assumption))
      · refine Ok.b (pX9_step h0 (hkr)) (fun x8 h6 => ?_)
        refine Ok.e rfl ?_
        refine Ok.e rfl ?_
        unfold jX9_comesBelow_40
        refine Ok.i (fun c7 => ?_) (fun c7 => ?_)
        · refine Ok.e rfl ?_
          exact ih _ _ _   (gap_up' (lt40 (by assumption) (by assumption)) hm)
        · refine Ok.e gZ_1 ?_
          exact Ok.s (by first | exact Or.inl rfl | exact Or.inr rfl | assumption | exact And.left (by assumption))
theorem pX9_comesBelow {v : Nat → Nat} {G0 G : gH} {b : Nat} {O : Nat → Nat → Int32} {P : Nat → Nat → Int64} {lo hi : Nat} {a1 : Int32} (h0 : Rch v G0 b O P lo hi G) {kr : Nat} (hkr : rkB kr = true) : Ok (fun x => x = 0 ∨ x = 1) (fX9_comesBelow v G (b + kr) a1) := by
  have hrlkr := rkB_lt hkr
  unfold fX9_comesBelow
  exact qX9_comesBelow_7 h0 (hkr) gFu _ _ _ (gap_fu _ _)
theorem pX9_bits {v : Nat → Nat} {G0 G : gH} {b : Nat} {O : Nat → Nat → Int32} {P : Nat → Nat → Int64} {lo hi : Nat} {a0 : Int32} (h0 : Rch v G0 b O P lo hi G) {kr : Nat} (hkr : rkB kr = true) {kr2 : Nat} (hkr2 : rkB kr2 = true) : Ok (fun _ => True) (fX9_bits v G a0 (b + kr) (b + kr2)) := by
  have hrlkr := rkB_lt hkr
  have hrlkr2 := rkB_lt hkr2
  unfold fX9_bits
  refine Ok.b (h0.at_ hkr) (fun x1 _ => ?_)
  refine Ok.i (fun c1 => ?_) (fun c1 => ?_)
  · unfold jX9_bits_15
    refine Ok.b (pX9_hasUp h0 (hkr)) (fun x1 h2 => ?_)
    refine Ok.i (fun c3 => ?_) (fun c3 => ?_)
    · unfold jX9_bits_29
      refine Ok.e rfl ?_
      refine Ok.i (fun c4 => ?_) (fun c4 => ?_)
      · unfold jX9_bits_43
        refine Ok.b (h0.at_ hkr2) (fun x1 _ => ?_)
        refine Ok.i (fun c5 => ?_) (fun c5 => ?_)
        · unfold jX9_bits_59
          refine Ok.e rfl ?_
          unfold jX9_bits_61
          refine Ok.i (fun c6 => ?_) (fun c6 => ?_)
          · refine Ok.b (pX9_hasUp h0 (hkr2)) (fun x2 h7 => ?_)
            refine Ok.i (fun c8 => ?_) (fun c8 => ?_)
            · unfold jX9_bits_81
              refine Ok.e rfl ?_
              unfold jX9_bits_83
              refine Ok.i (fun c9 => ?_) (fun c9 => ?_)
              · refine Ok.b (pX9_heightOf h0 (hkr)) (fun x2 h10 => ?_)
                refine Ok.b (pX9_comesBelow h0 (hkr2)) (fun x4 h11 => ?_)
                refine Ok.i (fun c12 => ?_) (fun c12 => ?_)
                · refine Ok.e rfl ?_
                  exact Ok.s trivial
                · refine Ok.e rfl ?_
                  exact Ok.s trivial
              · exact Ok.s trivial
            · unfold jX9_bits_81
              refine Ok.e rfl ?_
              unfold jX9_bits_83
              refine Ok.i (fun c13 => ?_) (fun c13 => ?_)
              · refine Ok.b (pX9_heightOf h0 (hkr)) (fun x2 h14 => ?_)
                refine Ok.b (pX9_comesBelow h0 (hkr2)) (fun x4 h15 => ?_)
                refine Ok.i (fun c16 => ?_) (fun c16 => ?_)
                · refine Ok.e rfl ?_
                  exact Ok.s trivial
                · refine Ok.e rfl ?_
                  exact Ok.s trivial
              · exact Ok.s trivial
          · unfold jX9_bits_83
            refine Ok.i (fun c17 => ?_) (fun c17 => ?_)
            · refine Ok.b (pX9_heightOf h0 (hkr)) (fun x2 h18 => ?_)
              refine Ok.b (pX9_comesBelow h0 (hkr2)) (fun x4 h19 => ?_)
              refine Ok.i (fun c20 => ?_) (fun c20 => ?_)
              · refine Ok.e rfl ?_
                exact Ok.s trivial
              · refine Ok.e rfl ?_
                exact Ok.s trivial
            · exact Ok.s trivial
        · unfold jX9_bits_59
          refine Ok.e rfl ?_
          unfold jX9_bits_61
          refine Ok.i (fun c21 => ?_) (fun c21 => ?_)
          · refine Ok.b (pX9_hasUp h0 (hkr2)) (fun x2 h22 => ?_)
            refine Ok.i (fun c23 => ?_) (fun c23 => ?_)
            · unfold jX9_bits_81
              refine Ok.e rfl ?_
              unfold jX9_bits_83
              refine Ok.i (fun c24 => ?_) (fun c24 => ?_)
              · refine Ok.b (pX9_heightOf h0 (hkr)) (fun x2 h25 => ?_)
                refine Ok.b (pX9_comesBelow h0 (hkr2)) (fun x4 h26 => ?_)
                refine Ok.i (fun c27 => ?_) (fun c27 => ?_)
                · refine Ok.e rfl ?_
                  exact Ok.s trivial
                · refine Ok.e rfl ?_
                  exact Ok.s trivial
              · exact Ok.s trivial
            · unfold jX9_bits_81
              refine Ok.e rfl ?_
              unfold jX9_bits_83
              refine Ok.i (fun c28 => ?_) (fun c28 => ?_)
              · refine Ok.b (pX9_heightOf h0 (hkr)) (fun x2 h29 => ?_)
                refine Ok.b (pX9_comesBelow h0 (hkr2)) (fun x4 h30 => ?_)
                refine Ok.i (fun c31 => ?_) (fun c31 => ?_)
                · refine Ok.e rfl ?_
                  exact Ok.s trivial
                · refine Ok.e rfl ?_
                  exact Ok.s trivial
              · exact Ok.s trivial
          · unfold jX9_bits_83
            refine Ok.i (fun c32 => ?_) (fun c32 => ?_)
            · refine Ok.b (pX9_heightOf h0 (hkr)) (fun x2 h33 => ?_)
              refine Ok.b (pX9_comesBelow h0 (hkr2)) (fun x4 h34 => ?_)
              refine Ok.i (fun c35 => ?_) (fun c35 => ?_)
              · refine Ok.e rfl ?_
                exact Ok.s trivial
              · refine Ok.e rfl ?_
                exact Ok.s trivial
            · exact Ok.s trivial
      · refine Ok.i (fun c36 => ?_) (fun c36 => ?_)
        · unfold jX9_bits_43
          refine Ok.b (h0.at_ hkr2) (fun x1 _ => ?_)
          refine Ok.i (fun c37 => ?_) (fun c37 => ?_)
          · unfold jX9_bits_59
            refine Ok.e rfl ?_
            unfold jX9_bits_61
            refine Ok.i (fun c38 => ?_) (fun c38 => ?_)
            · refine Ok.b (pX9_hasUp h0 (hkr2)) (fun x2 h39 => ?_)
              refine Ok.i (fun c40 => ?_) (fun c40 => ?_)
              · unfold jX9_bits_81
                refine Ok.e rfl ?_
                unfold jX9_bits_83
                refine Ok.i (fun c41 => ?_) (fun c41 => ?_)
                · refine Ok.b (pX9_heightOf h0 (hkr)) (fun x2 h42 => ?_)
                  refine Ok.b (pX9_comesBelow h0 (hkr2)) (fun x4 h43 => ?_)
                  refine Ok.i (fun c44 => ?_) (fun c44 => ?_)
                  · refine Ok.e rfl ?_
                    exact Ok.s trivial
                  · refine Ok.e rfl ?_
                    exact Ok.s trivial
                · exact Ok.s trivial
              · unfold jX9_bits_81
                refine Ok.e rfl ?_
                unfold jX9_bits_83
                refine Ok.i (fun c45 => ?_) (fun c45 => ?_)
                · refine Ok.b (pX9_heightOf h0 (hkr)) (fun x2 h46 => ?_)
                  refine Ok.b (pX9_comesBelow h0 (hkr2)) (fun x4 h47 => ?_)
                  refine Ok.i (fun c48 => ?_) (fun c48 => ?_)
                  · refine Ok.e rfl ?_
                    exact Ok.s trivial
                  · refine Ok.e rfl ?_
                    exact Ok.s trivial
                · exact Ok.s trivial
            · unfold jX9_bits_83
              refine Ok.i (fun c49 => ?_) (fun c49 => ?_)
              · refine Ok.b (pX9_heightOf h0 (hkr)) (fun x2 h50 => ?_)
                refine Ok.b (pX9_comesBelow h0 (hkr2)) (fun x4 h51 => ?_)
                refine Ok.i (fun c52 => ?_) (fun c52 => ?_)
                · refine Ok.e rfl ?_
                  exact Ok.s trivial
                · refine Ok.e rfl ?_
                  exact Ok.s trivial
              · exact Ok.s trivial
          · unfold jX9_bits_59
            refine Ok.e rfl ?_
            unfold jX9_bits_61
            refine Ok.i (fun c53 => ?_) (fun c53 => ?_)
            · refine Ok.b (pX9_hasUp h0 (hkr2)) (fun x2 h54 => ?_)
              refine Ok.i (fun c55 => ?_) (fun c55 => ?_)
              · unfold jX9_bits_81
                refine Ok.e rfl ?_
                unfold jX9_bits_83
                refine Ok.i (fun c56 => ?_) (fun c56 => ?_)
                · refine Ok.b (pX9_heightOf h0 (hkr)) (fun x2 h57 => ?_)
                  refine Ok.b (pX9_comesBelow h0 (hkr2)) (fun x4 h58 => ?_)
                  refine Ok.i (fun c59 => ?_) (fun c59 => ?_)
                  · refine Ok.e rfl ?_
                    exact Ok.s trivial
                  · refine Ok.e rfl ?_
                    exact Ok.s trivial
                · exact Ok.s trivial
              · unfold jX9_bits_81
                refine Ok.e rfl ?_
                unfold jX9_bits_83
                refine Ok.i (fun c60 => ?_) (fun c60 => ?_)
                · refine Ok.b (pX9_heightOf h0 (hkr)) (fun x2 h61 => ?_)
                  refine Ok.b (pX9_comesBelow h0 (hkr2)) (fun x4 h62 => ?_)
                  refine Ok.i (fun c63 => ?_) (fun c63 => ?_)
                  · refine Ok.e rfl ?_
                    exact Ok.s trivial
                  · refine Ok.e rfl ?_
                    exact Ok.s trivial
                · exact Ok.s trivial
            · unfold jX9_bits_83
              refine Ok.i (fun c64 => ?_) (fun c64 => ?_)
              · refine Ok.b (pX9_heightOf h0 (hkr)) (fun x2 h65 => ?_)
                refine Ok.b (pX9_comesBelow h0 (hkr2)) (fun x4 h66 => ?_)
                refine Ok.i (fun c67 => ?_) (fun c67 => ?_)
                · refine Ok.e rfl ?_
                  exact Ok.s trivial
                · refine Ok.e rfl ?_
                  exact Ok.s trivial
              · exact Ok.s trivial
        · unfold jX9_bits_61
          refine Ok.i (fun c68 => ?_) (fun c68 => ?_)
          · refine Ok.b (pX9_hasUp h0 (hkr2)) (fun x2 h69 => ?_)
            refine Ok.i (fun c70 => ?_) (fun c70 => ?_)
            · unfold jX9_bits_81
              refine Ok.e rfl ?_
              unfold jX9_bits_83
              refine Ok.i (fun c71 => ?_) (fun c71 => ?_)
              · refine Ok.b (pX9_heightOf h0 (hkr)) (fun x2 h72 => ?_)
                refine Ok.b (pX9_comesBelow h0 (hkr2)) (fun x4 h73 => ?_)
                refine Ok.i (fun c74 => ?_) (fun c74 => ?_)
                · refine Ok.e rfl ?_
                  exact Ok.s trivial
                · refine Ok.e rfl ?_
                  exact Ok.s trivial
              · exact Ok.s trivial
            · unfold jX9_bits_81
              refine Ok.e rfl ?_
              unfold jX9_bits_83
              refine Ok.i (fun c75 => ?_) (fun c75 => ?_)
              · refine Ok.b (pX9_heightOf h0 (hkr)) (fun x2 h76 => ?_)
                refine Ok.b (pX9_comesBelow h0 (hkr2)) (fun x4 h77 => ?_)
                refine Ok.i (fun c78 => ?_) (fun c78 => ?_)
                · refine Ok.e rfl ?_
                  exact Ok.s trivial
                · refine Ok.e rfl ?_
                  exact Ok.s trivial
              · exact Ok.s trivial
          · unfold jX9_bits_83
            refine Ok.i (fun c79 => ?_) (fun c79 => ?_)
            · refine Ok.b (pX9_heightOf h0 (hkr)) (fun x2 h80 => ?_)
              refine Ok.b (pX9_comesBelow h0 (hkr2)) (fun x4 h81 => ?_)
              refine Ok.i (fun c82 => ?_) (fun c82 => ?_)
              · refine Ok.e rfl ?_
                exact Ok.s trivial
              · refine Ok.e rfl ?_
                exact Ok.s trivial
            · exact Ok.s trivial
    · unfold jX9_bits_29
      refine Ok.e rfl ?_
      refine Ok.i (fun c83 => ?_) (fun c83 => ?_)
      · unfold jX9_bits_43
        refine Ok.b (h0.at_ hkr2) (fun x1 _ => ?_)
        refine Ok.i (fun c84 => ?_) (fun c84 => ?_)
        · unfold jX9_bits_59
          refine Ok.e rfl ?_
          unfold jX9_bits_61
          refine Ok.i (fun c85 => ?_) (fun c85 => ?_)
          · refine Ok.b (pX9_hasUp h0 (hkr2)) (fun x2 h86 => ?_)
            refine Ok.i (fun c87 => ?_) (fun c87 => ?_)
            · unfold jX9_bits_81
              refine Ok.e rfl ?_
              unfold jX9_bits_83
              refine Ok.i (fun c88 => ?_) (fun c88 => ?_)
              · refine Ok.b (pX9_heightOf h0 (hkr)) (fun x2 h89 => ?_)
                refine Ok.b (pX9_comesBelow h0 (hkr2)) (fun x4 h90 => ?_)
                refine Ok.i (fun c91 => ?_) (fun c91 => ?_)
                · refine Ok.e rfl ?_
                  exact Ok.s trivial
                · refine Ok.e rfl ?_
                  exact Ok.s trivial
              · exact Ok.s trivial
            · unfold jX9_bits_81
              refine Ok.e rfl ?_
              unfold jX9_bits_83
              refine Ok.i (fun c92 => ?_) (fun c92 => ?_)
              · refine Ok.b (pX9_heightOf h0 (hkr)) (fun x2 h93 => ?_)
                refine Ok.b (pX9_comesBelow h0 (hkr2)) (fun x4 h94 => ?_)
                refine Ok.i (fun c95 => ?_) (fun c95 => ?_)
                · refine Ok.e rfl ?_
                  exact Ok.s trivial
                · refine Ok.e rfl ?_
                  exact Ok.s trivial
              · exact Ok.s trivial
          · unfold jX9_bits_83
            refine Ok.i (fun c96 => ?_) (fun c96 => ?_)
            · refine Ok.b (pX9_heightOf h0 (hkr)) (fun x2 h97 => ?_)
              refine Ok.b (pX9_comesBelow h0 (hkr2)) (fun x4 h98 => ?_)
              refine Ok.i (fun c99 => ?_) (fun c99 => ?_)
              · refine Ok.e rfl ?_
                exact Ok.s trivial
              · refine Ok.e rfl ?_
                exact Ok.s trivial
            · exact Ok.s trivial
        · unfold jX9_bits_59
          refine Ok.e rfl ?_
          unfold jX9_bits_61
          refine Ok.i (fun c100 => ?_) (fun c100 => ?_)
          · refine Ok.b (pX9_hasUp h0 (hkr2)) (fun x2 h101 => ?_)
            refine Ok.i (fun c102 => ?_) (fun c102 => ?_)
            · unfold jX9_bits_81
              refine Ok.e rfl ?_
              unfold jX9_bits_83
              refine Ok.i (fun c103 => ?_) (fun c103 => ?_)
              · refine Ok.b (pX9_heightOf h0 (hkr)) (fun x2 h104 => ?_)
                refine Ok.b (pX9_comesBelow h0 (hkr2)) (fun x4 h105 => ?_)
                refine Ok.i (fun c106 => ?_) (fun c106 => ?_)
                · refine Ok.e rfl ?_
                  exact Ok.s trivial
                · refine Ok.e rfl ?_
                  exact Ok.s trivial
              · exact Ok.s trivial
            · unfold jX9_bits_81
              refine Ok.e rfl ?_
              unfold jX9_bits_83
              refine Ok.i (fun c107 => ?_) (fun c107 => ?_)
              · refine Ok.b (pX9_heightOf h0 (hkr)) (fun x2 h108 => ?_)
                refine Ok.b (pX9_comesBelow h0 (hkr2)) (fun x4 h109 => ?_)
                refine Ok.i (fun c110 => ?_) (fun c110 => ?_)
                · refine Ok.e rfl ?_
                  exact Ok.s trivial
                · refine Ok.e rfl ?_
                  exact Ok.s trivial
              · exact Ok.s trivial
          · unfold jX9_bits_83
            refine Ok.i (fun c111 => ?_) (fun c111 => ?_)
            · refine Ok.b (pX9_heightOf h0 (hkr)) (fun x2 h112 => ?_)
              refine Ok.b (pX9_comesBelow h0 (hkr2)) (fun x4 h113 => ?_)
              refine Ok.i (fun c114 => ?_) (fun c114 => ?_)
              · refine Ok.e rfl ?_
                exact Ok.s trivial
              · refine Ok.e rfl ?_
                exact Ok.s trivial
            · exact Ok.s trivial
      · refine Ok.i (fun c115 => ?_) (fun c115 => ?_)
        · unfold jX9_bits_43
          refine Ok.b (h0.at_ hkr2) (fun x1 _ => ?_)
          refine Ok.i (fun c116 => ?_) (fun c116 => ?_)
          · unfold jX9_bits_59
            refine Ok.e rfl ?_
            unfold jX9_bits_61
            refine Ok.i (fun c117 => ?_) (fun c117 => ?_)
            · refine Ok.b (pX9_hasUp h0 (hkr2)) (fun x2 h118 => ?_)
              refine Ok.i (fun c119 => ?_) (fun c119 => ?_)
              · unfold jX9_bits_81
                refine Ok.e rfl ?_
                unfold jX9_bits_83
                refine Ok.i (fun c120 => ?_) (fun c120 => ?_)
                · refine Ok.b (pX9_heightOf h0 (hkr)) (fun x2 h121 => ?_)
                  refine Ok.b (pX9_comesBelow h0 (hkr2)) (fun x4 h122 => ?_)
                  refine Ok.i (fun c123 => ?_) (fun c123 => ?_)
                  · refine Ok.e rfl ?_
                    exact Ok.s trivial
                  · refine Ok.e rfl ?_
                    exact Ok.s trivial
                · exact Ok.s trivial
              · unfold jX9_bits_81
                refine Ok.e rfl ?_
                unfold jX9_bits_83
                refine Ok.i (fun c124 => ?_) (fun c124 => ?_)
                · refine Ok.b (pX9_heightOf h0 (hkr)) (fun x2 h125 => ?_)
                  refine Ok.b (pX9_comesBelow h0 (hkr2)) (fun x4 h126 => ?_)
                  refine Ok.i (fun c127 => ?_) (fun c127 => ?_)
                  · refine Ok.e rfl ?_
                    exact Ok.s trivial
                  · refine Ok.e rfl ?_
                    exact Ok.s trivial
                · exact Ok.s trivial
            · unfold jX9_bits_83
              refine Ok.i (fun c128 => ?_) (fun c128 => ?_)
              · refine Ok.b (pX9_heightOf h0 (hkr)) (fun x2 h129 => ?_)
                refine Ok.b (pX9_comesBelow h0 (hkr2)) (fun x4 h130 => ?_)
                refine Ok.i (fun c131 => ?_) (fun c131 => ?_)
                · refine Ok.e rfl ?_
                  exact Ok.s trivial
                · refine Ok.e rfl ?_
                  exact Ok.s trivial
              · exact Ok.s trivial
          · unfold jX9_bits_59
            refine Ok.e rfl ?_
            unfold jX9_bits_61
            refine Ok.i (fun c132 => ?_) (fun c132 => ?_)
            · refine Ok.b (pX9_hasUp h0 (hkr2)) (fun x2 h133 => ?_)
              refine Ok.i (fun c134 => ?_) (fun c134 => ?_)
              · unfold jX9_bits_81
                refine Ok.e rfl ?_
                unfold jX9_bits_83
                refine Ok.i (fun c135 => ?_) (fun c135 => ?_)
                · refine Ok.b (pX9_heightOf h0 (hkr)) (fun x2 h136 => ?_)
                  refine Ok.b (pX9_comesBelow h0 (hkr2)) (fun x4 h137 => ?_)
                  refine Ok.i (fun c138 => ?_) (fun c138 => ?_)
                  · refine Ok.e rfl ?_
                    exact Ok.s trivial
                  · refine Ok.e rfl ?_
                    exact Ok.s trivial
                · exact Ok.s trivial
              · unfold jX9_bits_81
                refine Ok.e rfl ?_
                unfold jX9_bits_83
                refine Ok.i (fun c139 => ?_) (fun c139 => ?_)
                · refine Ok.b (pX9_heightOf h0 (hkr)) (fun x2 h140 => ?_)
                  refine Ok.b (pX9_comesBelow h0 (hkr2)) (fun x4 h141 => ?_)
                  refine Ok.i (fun c142 => ?_) (fun c142 => ?_)
                  · refine Ok.e rfl ?_
                    exact Ok.s trivial
                  · refine Ok.e rfl ?_
                    exact Ok.s trivial
                · exact Ok.s trivial
            · unfold jX9_bits_83
              refine Ok.i (fun c143 => ?_) (fun c143 => ?_)
              · refine Ok.b (pX9_heightOf h0 (hkr)) (fun x2 h144 => ?_)
                refine Ok.b (pX9_comesBelow h0 (hkr2)) (fun x4 h145 => ?_)
                refine Ok.i (fun c146 => ?_) (fun c146 => ?_)
                · refine Ok.e rfl ?_
                  exact Ok.s trivial
                · refine Ok.e rfl ?_
                  exact Ok.s trivial
              · exact Ok.s trivial
        · unfold jX9_bits_61
          refine Ok.i (fun c147 => ?_) (fun c147 => ?_)
          · refine Ok.b (pX9_hasUp h0 (hkr2)) (fun x2 h148 => ?_)
            refine Ok.i (fun c149 => ?_) (fun c149 => ?_)
            · unfold jX9_bits_81
              refine Ok.e rfl ?_
              unfold jX9_bits_83
              refine Ok.i (fun c150 => ?_) (fun c150 => ?_)
              · refine Ok.b (pX9_heightOf h0 (hkr)) (fun x2 h151 => ?_)
                refine Ok.b (pX9_comesBelow h0 (hkr2)) (fun x4 h152 => ?_)
                refine Ok.i (fun c153 => ?_) (fun c153 => ?_)
                · refine Ok.e rfl ?_
                  exact Ok.s trivial
                · refine Ok.e rfl ?_
                  exact Ok.s trivial
              · exact Ok.s trivial
            · unfold jX9_bits_81
              refine Ok.e rfl ?_
              unfold jX9_bits_83
              refine Ok.i (fun c154 => ?_) (fun c154 => ?_)
              · refine Ok.b (pX9_heightOf h0 (hkr)) (fun x2 h155 => ?_)
                refine Ok.b (pX9_comesBelow h0 (hkr2)) (fun x4 h156 => ?_)
                refine Ok.i (fun c157 => ?_) (fun c157 => ?_)
                · refine Ok.e rfl ?_
                  exact Ok.s trivial
                · refine Ok.e rfl ?_
                  exact Ok.s trivial
              · exact Ok.s trivial
          · unfold jX9_bits_83
            refine Ok.i (fun c158 => ?_) (fun c158 => ?_)
            · refine Ok.b (pX9_heightOf h0 (hkr)) (fun x2 h159 => ?_)
              refine Ok.b (pX9_comesBelow h0 (hkr2)) (fun x4 h160 => ?_)
              refine Ok.i (fun c161 => ?_) (fun c161 => ?_)
              · refine Ok.e rfl ?_
                exact Ok.s trivial
              · refine Ok.e rfl ?_
                exact Ok.s trivial
            · exact Ok.s trivial
  · unfold jX9_bits_15
    refine Ok.b (pX9_hasUp h0 (hkr)) (fun x1 h162 => ?_)
    refine Ok.i (fun c163 => ?_) (fun c163 => ?_)
    · unfold jX9_bits_29
      refine Ok.e rfl ?_
      refine Ok.i (fun c164 => ?_) (fun c164 => ?_)
      · unfold jX9_bits_43
        refine Ok.b (h0.at_ hkr2) (fun x1 _ => ?_)
        refine Ok.i (fun c165 => ?_) (fun c165 => ?_)
        · unfold jX9_bits_59
          refine Ok.e rfl ?_
          unfold jX9_bits_61
          refine Ok.i (fun c166 => ?_) (fun c166 => ?_)
          · refine Ok.b (pX9_hasUp h0 (hkr2)) (fun x2 h167 => ?_)
            refine Ok.i (fun c168 => ?_) (fun c168 => ?_)
            · unfold jX9_bits_81
              refine Ok.e rfl ?_
              unfold jX9_bits_83
              refine Ok.i (fun c169 => ?_) (fun c169 => ?_)
              · refine Ok.b (pX9_heightOf h0 (hkr)) (fun x2 h170 => ?_)
                refine Ok.b (pX9_comesBelow h0 (hkr2)) (fun x4 h171 => ?_)
                refine Ok.i (fun c172 => ?_) (fun c172 => ?_)
                · refine Ok.e rfl ?_
                  exact Ok.s trivial
                · refine Ok.e rfl ?_
                  exact Ok.s trivial
              · exact Ok.s trivial
            · unfold jX9_bits_81
              refine Ok.e rfl ?_
              unfold jX9_bits_83
              refine Ok.i (fun c173 => ?_) (fun c173 => ?_)
              · refine Ok.b (pX9_heightOf h0 (hkr)) (fun x2 h174 => ?_)
                refine Ok.b (pX9_comesBelow h0 (hkr2)) (fun x4 h175 => ?_)
                refine Ok.i (fun c176 => ?_) (fun c176 => ?_)
                · refine Ok.e rfl ?_
                  exact Ok.s trivial
                · refine Ok.e rfl ?_
                  exact Ok.s trivial
              · exact Ok.s trivial
          · unfold jX9_bits_83
            refine Ok.i (fun c177 => ?_) (fun c177 => ?_)
            · refine Ok.b (pX9_heightOf h0 (hkr)) (fun x2 h178 => ?_)
              refine Ok.b (pX9_comesBelow h0 (hkr2)) (fun x4 h179 => ?_)
              refine Ok.i (fun c180 => ?_) (fun c180 => ?_)
              · refine Ok.e rfl ?_
                exact Ok.s trivial
              · refine Ok.e rfl ?_
                exact Ok.s trivial
            · exact Ok.s trivial
        · unfold jX9_bits_59
          refine Ok.e rfl ?_
          unfold jX9_bits_61
          refine Ok.i (fun c181 => ?_) (fun c181 => ?_)
          · refine Ok.b (pX9_hasUp h0 (hkr2)) (fun x2 h182 => ?_)
            refine Ok.i (fun c183 => ?_) (fun c183 => ?_)
            · unfold jX9_bits_81
              refine Ok.e rfl ?_
              unfold jX9_bits_83
              refine Ok.i (fun c184 => ?_) (fun c184 => ?_)
              · refine Ok.b (pX9_heightOf h0 (hkr)) (fun x2 h185 => ?_)
                refine Ok.b (pX9_comesBelow h0 (hkr2)) (fun x4 h186 => ?_)
                refine Ok.i (fun c187 => ?_) (fun c187 => ?_)
                · refine Ok.e rfl ?_
                  exact Ok.s trivial
                · refine Ok.e rfl ?_
                  exact Ok.s trivial
              · exact Ok.s trivial
            · unfold jX9_bits_81
              refine Ok.e rfl ?_
              unfold jX9_bits_83
              refine Ok.i (fun c188 => ?_) (fun c188 => ?_)
              · refine Ok.b (pX9_heightOf h0 (hkr)) (fun x2 h189 => ?_)
                refine Ok.b (pX9_comesBelow h0 (hkr2)) (fun x4 h190 => ?_)
                refine Ok.i (fun c191 => ?_) (fun c191 => ?_)
                · refine Ok.e rfl ?_
                  exact Ok.s trivial
                · refine Ok.e rfl ?_
                  exact Ok.s trivial
              · exact Ok.s trivial
          · unfold jX9_bits_83
            refine Ok.i (fun c192 => ?_) (fun c192 => ?_)
            · refine Ok.b (pX9_heightOf h0 (hkr)) (fun x2 h193 => ?_)
              refine Ok.b (pX9_comesBelow h0 (hkr2)) (fun x4 h194 => ?_)
              refine Ok.i (fun c195 => ?_) (fun c195 => ?_)
              · refine Ok.e rfl ?_
                exact Ok.s trivial
              · refine Ok.e rfl ?_
                exact Ok.s trivial
            · exact Ok.s trivial
      · refine Ok.i (fun c196 => ?_) (fun c196 => ?_)
        · unfold jX9_bits_43
          refine Ok.b (h0.at_ hkr2) (fun x1 _ => ?_)
          refine Ok.i (fun c197 => ?_) (fun c197 => ?_)
          · unfold jX9_bits_59
            refine Ok.e rfl ?_
            unfold jX9_bits_61
            refine Ok.i (fun c198 => ?_) (fun c198 => ?_)
            · refine Ok.b (pX9_hasUp h0 (hkr2)) (fun x2 h199 => ?_)
              refine Ok.i (fun c200 => ?_) (fun c200 => ?_)
              · unfold jX9_bits_81
                refine Ok.e rfl ?_
                unfold jX9_bits_83
                refine Ok.i (fun c201 => ?_) (fun c201 => ?_)
                · refine Ok.b (pX9_heightOf h0 (hkr)) (fun x2 h202 => ?_)
                  refine Ok.b (pX9_comesBelow h0 (hkr2)) (fun x4 h203 => ?_)
                  refine Ok.i (fun c204 => ?_) (fun c204 => ?_)
                  · refine Ok.e rfl ?_
                    exact Ok.s trivial
                  · refine Ok.e rfl ?_
                    exact Ok.s trivial
                · exact Ok.s trivial
              · unfold jX9_bits_81
                refine Ok.e rfl ?_
                unfold jX9_bits_83
                refine Ok.i (fun c205 => ?_) (fun c205 => ?_)
                · refine Ok.b (pX9_heightOf h0 (hkr)) (fun x2 h206 => ?_)
                  refine Ok.b (pX9_comesBelow h0 (hkr2)) (fun x4 h207 => ?_)
                  refine Ok.i (fun c208 => ?_) (fun c208 => ?_)
                  · refine Ok.e rfl ?_
                    exact Ok.s trivial
                  · refine Ok.e rfl ?_
                    exact Ok.s trivial
                · exact Ok.s trivial
            · unfold jX9_bits_83
              refine Ok.i (fun c209 => ?_) (fun c209 => ?_)
              · refine Ok.b (pX9_heightOf h0 (hkr)) (fun x2 h210 => ?_)
                refine Ok.b (pX9_comesBelow h0 (hkr2)) (fun x4 h211 => ?_)
                refine Ok.i (fun c212 => ?_) (fun c212 => ?_)
                · refine Ok.e rfl ?_
                  exact Ok.s trivial
                · refine Ok.e rfl ?_
                  exact Ok.s trivial
              · exact Ok.s trivial
          · unfold jX9_bits_59
            refine Ok.e rfl ?_
            unfold jX9_bits_61
            refine Ok.i (fun c213 => ?_) (fun c213 => ?_)
            · refine Ok.b (pX9_hasUp h0 (hkr2)) (fun x2 h214 => ?_)
              refine Ok.i (fun c215 => ?_) (fun c215 => ?_)
              · unfold jX9_bits_81
                refine Ok.e rfl ?_
                unfold jX9_bits_83
                refine Ok.i (fun c216 => ?_) (fun c216 => ?_)
                · refine Ok.b (pX9_heightOf h0 (hkr)) (fun x2 h217 => ?_)
                  refine Ok.b (pX9_comesBelow h0 (hkr2)) (fun x4 h218 => ?_)
                  refine Ok.i (fun c219 => ?_) (fun c219 => ?_)
                  · refine Ok.e rfl ?_
                    exact Ok.s trivial
                  · refine Ok.e rfl ?_
                    exact Ok.s trivial
                · exact Ok.s trivial
              · unfold jX9_bits_81
                refine Ok.e rfl ?_
                unfold jX9_bits_83
                refine Ok.i (fun c220 => ?_) (fun c220 => ?_)
                · refine Ok.b (pX9_heightOf h0 (hkr)) (fun x2 h221 => ?_)
                  refine Ok.b (pX9_comesBelow h0 (hkr2)) (fun x4 h222 => ?_)
                  refine Ok.i (fun c223 => ?_) (fun c223 => ?_)
                  · refine Ok.e rfl ?_
                    exact Ok.s trivial
                  · refine Ok.e rfl ?_
                    exact Ok.s trivial
                · exact Ok.s trivial
            · unfold jX9_bits_83
              refine Ok.i (fun c224 => ?_) (fun c224 => ?_)
              · refine Ok.b (pX9_heightOf h0 (hkr)) (fun x2 h225 => ?_)
                refine Ok.b (pX9_comesBelow h0 (hkr2)) (fun x4 h226 => ?_)
                refine Ok.i (fun c227 => ?_) (fun c227 => ?_)
                · refine Ok.e rfl ?_
                  exact Ok.s trivial
                · refine Ok.e rfl ?_
                  exact Ok.s trivial
              · exact Ok.s trivial
        · unfold jX9_bits_61
          refine Ok.i (fun c228 => ?_) (fun c228 => ?_)
          · refine Ok.b (pX9_hasUp h0 (hkr2)) (fun x2 h229 => ?_)
            refine Ok.i (fun c230 => ?_) (fun c230 => ?_)
            · unfold jX9_bits_81
              refine Ok.e rfl ?_
              unfold jX9_bits_83
              refine Ok.i (fun c231 => ?_) (fun c231 => ?_)
              · refine Ok.b (pX9_heightOf h0 (hkr)) (fun x2 h232 => ?_)
                refine Ok.b (pX9_comesBelow h0 (hkr2)) (fun x4 h233 => ?_)
                refine Ok.i (fun c234 => ?_) (fun c234 => ?_)
                · refine Ok.e rfl ?_
                  exact Ok.s trivial
                · refine Ok.e rfl ?_
                  exact Ok.s trivial
              · exact Ok.s trivial
            · unfold jX9_bits_81
              refine Ok.e rfl ?_
              unfold jX9_bits_83
              refine Ok.i (fun c235 => ?_) (fun c235 => ?_)
              · refine Ok.b (pX9_heightOf h0 (hkr)) (fun x2 h236 => ?_)
                refine Ok.b (pX9_comesBelow h0 (hkr2)) (fun x4 h237 => ?_)
                refine Ok.i (fun c238 => ?_) (fun c238 => ?_)
                · refine Ok.e rfl ?_
                  exact Ok.s trivial
                · refine Ok.e rfl ?_
                  exact Ok.s trivial
              · exact Ok.s trivial
          · unfold jX9_bits_83
            refine Ok.i (fun c239 => ?_) (fun c239 => ?_)
            · refine Ok.b (pX9_heightOf h0 (hkr)) (fun x2 h240 => ?_)
              refine Ok.b (pX9_comesBelow h0 (hkr2)) (fun x4 h241 => ?_)
              refine Ok.i (fun c242 => ?_) (fun c242 => ?_)
              · refine Ok.e rfl ?_
                exact Ok.s trivial
              · refine Ok.e rfl ?_
                exact Ok.s trivial
            · exact Ok.s trivial
    · unfold jX9_bits_29
      refine Ok.e rfl ?_
      refine Ok.i (fun c243 => ?_) (fun c243 => ?_)
      · unfold jX9_bits_43
        refine Ok.b (h0.at_ hkr2) (fun x1 _ => ?_)
        refine Ok.i (fun c244 => ?_) (fun c244 => ?_)
        · unfold jX9_bits_59
          refine Ok.e rfl ?_
          unfold jX9_bits_61
          refine Ok.i (fun c245 => ?_) (fun c245 => ?_)
          · refine Ok.b (pX9_hasUp h0 (hkr2)) (fun x2 h246 => ?_)
            refine Ok.i (fun c247 => ?_) (fun c247 => ?_)
            · unfold jX9_bits_81
              refine Ok.e rfl ?_
              unfold jX9_bits_83
              refine Ok.i (fun c248 => ?_) (fun c248 => ?_)
              · refine Ok.b (pX9_heightOf h0 (hkr)) (fun x2 h249 => ?_)
                refine Ok.b (pX9_comesBelow h0 (hkr2)) (fun x4 h250 => ?_)
                refine Ok.i (fun c251 => ?_) (fun c251 => ?_)
                · refine Ok.e rfl ?_
                  exact Ok.s trivial
                · refine Ok.e rfl ?_
                  exact Ok.s trivial
              · exact Ok.s trivial
            · unfold jX9_bits_81
              refine Ok.e rfl ?_
              unfold jX9_bits_83
              refine Ok.i (fun c252 => ?_) (fun c252 => ?_)
              · refine Ok.b (pX9_heightOf h0 (hkr)) (fun x2 h253 => ?_)
                refine Ok.b (pX9_comesBelow h0 (hkr2)) (fun x4 h254 => ?_)
                refine Ok.i (fun c255 => ?_) (fun c255 => ?_)
                · refine Ok.e rfl ?_
                  exact Ok.s trivial
                · refine Ok.e rfl ?_
                  exact Ok.s trivial
              · exact Ok.s trivial
          · unfold jX9_bits_83
            refine Ok.i (fun c256 => ?_) (fun c256 => ?_)
            · refine Ok.b (pX9_heightOf h0 (hkr)) (fun x2 h257 => ?_)
              refine Ok.b (pX9_comesBelow h0 (hkr2)) (fun x4 h258 => ?_)
              refine Ok.i (fun c259 => ?_) (fun c259 => ?_)
              · refine Ok.e rfl ?_
                exact Ok.s trivial
              · refine Ok.e rfl ?_
                exact Ok.s trivial
            · exact Ok.s trivial
        · unfold jX9_bits_59
          refine Ok.e rfl ?_
          unfold jX9_bits_61
          refine Ok.i (fun c260 => ?_) (fun c260 => ?_)
          · refine Ok.b (pX9_hasUp h0 (hkr2)) (fun x2 h261 => ?_)
            refine Ok.i (fun c262 => ?_) (fun c262 => ?_)
            · unfold jX9_bits_81
              refine Ok.e rfl ?_
              unfold jX9_bits_83
              refine Ok.i (fun c263 => ?_) (fun c263 => ?_)
              · refine Ok.b (pX9_heightOf h0 (hkr)) (fun x2 h264 => ?_)
                refine Ok.b (pX9_comesBelow h0 (hkr2)) (fun x4 h265 => ?_)
                refine Ok.i (fun c266 => ?_) (fun c266 => ?_)
                · refine Ok.e rfl ?_
                  exact Ok.s trivial
                · refine Ok.e rfl ?_
                  exact Ok.s trivial
              · exact Ok.s trivial
            · unfold jX9_bits_81
              refine Ok.e rfl ?_
              unfold jX9_bits_83
              refine Ok.i (fun c267 => ?_) (fun c267 => ?_)
              · refine Ok.b (pX9_heightOf h0 (hkr)) (fun x2 h268 => ?_)
                refine Ok.b (pX9_comesBelow h0 (hkr2)) (fun x4 h269 => ?_)
                refine Ok.i (fun c270 => ?_) (fun c270 => ?_)
                · refine Ok.e rfl ?_
                  exact Ok.s trivial
                · refine Ok.e rfl ?_
                  exact Ok.s trivial
              · exact Ok.s trivial
          · unfold jX9_bits_83
            refine Ok.i (fun c271 => ?_) (fun c271 => ?_)
            · refine Ok.b (pX9_heightOf h0 (hkr)) (fun x2 h272 => ?_)
              refine Ok.b (pX9_comesBelow h0 (hkr2)) (fun x4 h273 => ?_)
              refine Ok.i (fun c274 => ?_) (fun c274 => ?_)
              · refine Ok.e rfl ?_
                exact Ok.s trivial
              · refine Ok.e rfl ?_
                exact Ok.s trivial
            · exact Ok.s trivial
      · refine Ok.i (fun c275 => ?_) (fun c275 => ?_)
        · unfold jX9_bits_43
          refine Ok.b (h0.at_ hkr2) (fun x1 _ => ?_)
          refine Ok.i (fun c276 => ?_) (fun c276 => ?_)
          · unfold jX9_bits_59
            refine Ok.e rfl ?_
            unfold jX9_bits_61
            refine Ok.i (fun c277 => ?_) (fun c277 => ?_)
            · refine Ok.b (pX9_hasUp h0 (hkr2)) (fun x2 h278 => ?_)
              refine Ok.i (fun c279 => ?_) (fun c279 => ?_)
              · unfold jX9_bits_81
                refine Ok.e rfl ?_
                unfold jX9_bits_83
                refine Ok.i (fun c280 => ?_) (fun c280 => ?_)
                · refine Ok.b (pX9_heightOf h0 (hkr)) (fun x2 h281 => ?_)
                  refine Ok.b (pX9_comesBelow h0 (hkr2)) (fun x4 h282 => ?_)
                  refine Ok.i (fun c283 => ?_) (fun c283 => ?_)
                  · refine Ok.e rfl ?_
                    exact Ok.s trivial
                  · refine Ok.e rfl ?_
                    exact Ok.s trivial
                · exact Ok.s trivial
              · unfold jX9_bits_81
                refine Ok.e rfl ?_
                unfold jX9_bits_83
                refine Ok.i (fun c284 => ?_) (fun c284 => ?_)
                · refine Ok.b (pX9_heightOf h0 (hkr)) (fun x2 h285 => ?_)
                  refine Ok.b (pX9_comesBelow h0 (hkr2)) (fun x4 h286 => ?_)
                  refine Ok.i (fun c287 => ?_) (fun c287 => ?_)
                  · refine Ok.e rfl ?_
                    exact Ok.s trivial
                  · refine Ok.e rfl ?_
                    exact Ok.s trivial
                · exact Ok.s trivial
            · unfold jX9_bits_83
              refine Ok.i (fun c288 => ?_) (fun c288 => ?_)
              · refine Ok.b (pX9_heightOf h0 (hkr)) (fun x2 h289 => ?_)
                refine Ok.b (pX9_comesBelow h0 (hkr2)) (fun x4 h290 => ?_)
                refine Ok.i (fun c291 => ?_) (fun c291 => ?_)
                · refine Ok.e rfl ?_
                  exact Ok.s trivial
                · refine Ok.e rfl ?_
                  exact Ok.s trivial
              · exact Ok.s trivial
          · unfold jX9_bits_59
            refine Ok.e rfl ?_
            unfold jX9_bits_61
            refine Ok.i (fun c292 => ?_) (fun c292 => ?_)
            · refine Ok.b (pX9_hasUp h0 (hkr2)) (fun x2 h293 => ?_)
              refine Ok.i (fun c294 => ?_) (fun c294 => ?_)
              · unfold jX9_bits_81
                refine Ok.e rfl ?_
                unfold jX9_bits_83
                refine Ok.i (fun c295 => ?_) (fun c295 => ?_)
                · refine Ok.b (pX9_heightOf h0 (hkr)) (fun x2 h296 => ?_)
                  refine Ok.b (pX9_comesBelow h0 (hkr2)) (fun x4 h297 => ?_)
                  refine Ok.i (fun c298 => ?_) (fun c298 => ?_)
                  · refine Ok.e rfl ?_
                    exact Ok.s trivial
                  · refine Ok.e rfl ?_
                    exact Ok.s trivial
                · exact Ok.s trivial
              · unfold jX9_bits_81
                refine Ok.e rfl ?_
                unfold jX9_bits_83
                refine Ok.i (fun c299 => ?_) (fun c299 => ?_)
                · refine Ok.b (pX9_heightOf h0 (hkr)) (fun x2 h300 => ?_)
                  refine Ok.b (pX9_comesBelow h0 (hkr2)) (fun x4 h301 => ?_)
                  refine Ok.i (fun c302 => ?_) (fun c302 => ?_)
                  · refine Ok.e rfl ?_
                    exact Ok.s trivial
                  · refine Ok.e rfl ?_
                    exact Ok.s trivial
                · exact Ok.s trivial
            · unfold jX9_bits_83
              refine Ok.i (fun c303 => ?_) (fun c303 => ?_)
              · refine Ok.b (pX9_heightOf h0 (hkr)) (fun x2 h304 => ?_)
                refine Ok.b (pX9_comesBelow h0 (hkr2)) (fun x4 h305 => ?_)
                refine Ok.i (fun c306 => ?_) (fun c306 => ?_)
                · refine Ok.e rfl ?_
                  exact Ok.s trivial
                · refine Ok.e rfl ?_
                  exact Ok.s trivial
              · exact Ok.s trivial
        · unfold jX9_bits_61
          refine Ok.i (fun c307 => ?_) (fun c307 => ?_)
          · refine Ok.b (pX9_hasUp h0 (hkr2)) (fun x2 h308 => ?_)
            refine Ok.i (fun c309 => ?_) (fun c309 => ?_)
            · unfold jX9_bits_81
              refine Ok.e rfl ?_
              unfold jX9_bits_83
              refine Ok.i (fun c310 => ?_) (fun c310 => ?_)
              · refine Ok.b (pX9_heightOf h0 (hkr)) (fun x2 h311 => ?_)
                refine Ok.b (pX9_comesBelow h0 (hkr2)) (fun x4 h312 => ?_)
                refine Ok.i (fun c313 => ?_) (fun c313 => ?_)
                · refine Ok.e rfl ?_
                  exact Ok.s trivial
                · refine Ok.e rfl ?_
                  exact Ok.s trivial
              · exact Ok.s trivial
            · unfold jX9_bits_81
              refine Ok.e rfl ?_
              unfold jX9_bits_83
              refine Ok.i (fun c314 => ?_) (fun c314 => ?_)
              · refine Ok.b (pX9_heightOf h0 (hkr)) (fun x2 h315 => ?_)
                refine Ok.b (pX9_comesBelow h0 (hkr2)) (fun x4 h316 => ?_)
                refine Ok.i (fun c317 => ?_) (fun c317 => ?_)
                · refine Ok.e rfl ?_
                  exact Ok.s trivial
                · refine Ok.e rfl ?_
                  exact Ok.s trivial
              · exact Ok.s trivial
          · unfold jX9_bits_83
            refine Ok.i (fun c318 => ?_) (fun c318 => ?_)
            · refine Ok.b (pX9_heightOf h0 (hkr)) (fun x2 h319 => ?_)
              refine Ok.b (pX9_comesBelow h0 (hkr2)) (fun x4 h320 => ?_)
              refine Ok.i (fun c321 => ?_) (fun c321 => ?_)
              · refine Ok.e rfl ?_
                exact Ok.s trivial
              · refine Ok.e rfl ?_
                exact Ok.s trivial
            · exact Ok.s trivial
