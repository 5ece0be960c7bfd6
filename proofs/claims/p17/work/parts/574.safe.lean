/-! PURE: each method of the class answers, and keeps the shape of its cells (written by sgen.py) -/
theorem qX1_run_35 {v : Nat → Nat} {G0 G : gH} {b : Nat} {O : Nat → Nat → Int32} {P : Nat → Nat → Int64} (h0 : Rch v G0 b O P 11 266 G)  : ∀ (n : Nat) (y1 : Int32) (y2 : Int32) (y3 : Int32), gap y3 65 < n → Ok (fun r => Rch v G0 b O P 11 266 r.2) (lX1_run_35 v n G (b + 11) y1 y2 y3) := by
  have lp : ∀ (n : Nat) (G : gH) (y1 : Int32) (y2 : Int32) (y3 : Int32), Rch v G0 b O P 11 266 G → gap y3 65 < n → Ok (fun r => Rch v G0 b O P 11 266 r.2) (lX1_run_35 v n G (b + 11) y1 y2 y3) := by
    intro n
    induction n with
    | zero => intro G y1 y2 y3 _ h; exact absurd h (Nat.not_lt_zero _)
    | succ n ih =>
      intro G y1 y2 y3 h0 hm
      show Ok _ (bX1_run_35 v (lX1_run_35 v n) G (b + 11) y1 y2 y3)
      unfold bX1_run_35
      refine Ok.i (fun c1 => ?_) (fun c1 => ?_)
      · obtain ⟨_, _, o2⟩ := h0.oD
        refine Ok.e (gI_at o2 rfl) ?_
        exact Ok.s h0
      · refine Ok.i (fun c3 => ?_) (fun c3 => ?_)
        · obtain ⟨_, _, o4⟩ := h0.oD
          refine Ok.e (gI_at o4 rfl) ?_
          exact Ok.s h0
        · obtain ⟨_, _, o5⟩ := h0.oD
          refine Ok.e (gR_at o5 rfl) ?_
          refine Ok.b (h0.count rk3) (fun x6 hu6 => ?_)
          refine Ok.e rfl ?_
          refine Ok.i (fun c7 => ?_) (fun c7 => ?_)
          · refine Ok.e (gR_at o5 rfl) ?_
            refine Ok.e (gR_at o5 rfl) ?_
            refine Ok.b (pX0_tellsSomething h0 (hA13)) (fun x23 h8 => ?_)
            refine Ok.i (fun c9 => ?_) (fun c9 => ?_)
            · unfold jX1_run_81
              refine Ok.b (pX4_end h0 ) (fun x1 h10 => ?_)
              unfold jX1_run_134
              refine Ok.e rfl ?_
              exact ih _ _ _ _ h10  (gap_up' (lt65 (by assumption)) hm)
            · unfold jX1_run_81
              refine Ok.b (pX4_end h0 ) (fun x1 h11 => ?_)
              unfold jX1_run_134
              refine Ok.e rfl ?_
              exact ih _ _ _ _ h11  (gap_up' (lt65 (by assumption)) hm)
          · refine Ok.i (fun c12 => ?_) (fun c12 => ?_)
            · refine Ok.b (pX1_isBlank h0 ) (fun x11 h13 => ?_)
              refine Ok.i (fun c14 => ?_) (fun c14 => ?_)
              · refine Ok.b (pX1_passHead h0 ) (fun x14 h15 => ?_)
                unfold jX1_run_134
                refine Ok.e rfl ?_
                exact ih _ _ _ _ h15  (gap_up' (lt65 (by assumption)) hm)
              · refine Ok.b (pX1_passEnd h0 ) (fun x16 h16 => ?_)
                unfold jX1_run_134
                refine Ok.e rfl ?_
                exact ih _ _ _ _ h16  (gap_up' (lt65 (by assumption)) hm)
            · refine Ok.e (gR_at o5 rfl) ?_
              refine Ok.b (pX4_end h0 ) (fun x19 h17 => ?_)
              unfold jX1_run_134
              refine Ok.e rfl ?_
              exact ih _ _ _ _ h17  (gap_up' (lt65 (by assumption)) hm)
  intro n y1 y2 y3 hm
  exact lp n G y1 y2 y3 h0 hm
theorem pX1_run {v : Nat → Nat} {G0 G : gH} {b : Nat} {O : Nat → Nat → Int32} {P : Nat → Nat → Int64} {a1 : Int32} (h0 : Rch v G0 b O P 11 266 G) : Ok (fun r => Rch v G0 b O P 11 266 r.2) (fX1_run v G (b + 11) a1) := by
  unfold fX1_run
  obtain ⟨_, _, o1⟩ := h0.oD
  refine Ok.e (gOb_at o1) ?_
  refine Ok.e (gR_at o1 rfl) ?_
  refine Ok.b (pX4_forget h0 ) (fun x2 h2 => ?_)
  obtain ⟨_, _, o3⟩ := h2.oD
  refine Ok.e (gR_at o3 rfl) ?_
  refine Ok.b (pX0_forget h2 (hA13)) (fun x5 h4 => ?_)
  obtain ⟨_, _, o5⟩ := h4.oD
  refine Ok.e (gR_at o5 rfl) ?_
  refine Ok.b (pX0_forget h4 (hA18)) (fun x8 h6 => ?_)
  refine Ok.b (h6.pi tm_D7 (by omega)) (fun G10 h7 => ?_)
  refine Ok.b (h7.pi tm_D8 (by omega)) (fun G11 h8 => ?_)
  exact qX1_run_35 h8  gFu _ _ _ (gap_fu _ _)
theorem qX3_split_18 {v : Nat → Nat} {G0 G : gH} {b : Nat} {O : Nat → Nat → Int32} {P : Nat → Nat → Int64} {lo hi : Nat} (h0 : Rch v G0 b O P lo hi G) {ke : Nat} (hke : ekB ke = true)  : ∀ (n : Nat) (y1 : Int32) (y2 : Int32), dist y2 < n → Ok (fun _ => True) (lX3_split_18 v G n (b + ke) y1 y2) := by
  have ze := ekB_iff.mp hke
  intro n
  induction n with
  | zero => intro y1 y2 h; exact absurd h (Nat.not_lt_zero _)
  | succ n ih =>
    intro y1 y2 hm
    show Ok _ (bX3_split_18 v G (lX3_split_18 v G n) (b + ke) y1 y2)
    unfold bX3_split_18
    refine Ok.i (fun c1 => ?_) (fun c1 => ?_)
    · exact Ok.s trivial
    · refine Ok.i (fun c2 => ?_) (fun c2 => ?_)
      · exact Ok.s trivial
      · obtain ⟨_, _, _, o3⟩ := h0.oE hke
        refine Ok.e (gR_at o3 rfl) ?_
        refine Ok.b (h0.at_ (rkE1 hke)) (fun x4 _ => ?_)
        refine Ok.i (fun c4 => ?_) (fun c4 => ?_)
        · exact Ok.s trivial
        · refine Ok.e rfl ?_
          exact ih _ _   (dist_dn (n2 (by assumption)) hm)
theorem pX3_split {v : Nat → Nat} {G0 G : gH} {b : Nat} {O : Nat → Nat → Int32} {P : Nat → Nat → Int64} {lo hi : Nat}  (h0 : Rch v G0 b O P lo hi G) {ke : Nat} (hke : ekB ke = true) : Ok (fun _ => True) (fX3_split v G (b + ke)) := by
  have ze := ekB_iff.mp hke
  unfold fX3_split
  obtain ⟨_, _, _, o1⟩ := h0.oE hke
  refine Ok.e (gOb_at o1) ?_
  refine Ok.e (gR_at o1 rfl) ?_
  refine Ok.b (h0.count (rkE1 hke)) (fun x2 hu2 => ?_)
  refine Ok.e rfl ?_
  exact qX3_split_18 h0 (hke) gFu _ _ (dist_fu _)
theorem pX3_isNameInFields {v : Nat → Nat} {G0 G : gH} {b : Nat} {O : Nat → Nat → Int32} {P : Nat → Nat → Int64} {lo hi : Nat}  (h0 : Rch v G0 b O P lo hi G) {ke : Nat} (hke : ekB ke = true) : Ok (fun x => x = 0 ∨ x = 1) (fX3_isNameInFields v G (b + ke)) := by
  have ze := ekB_iff.mp hke
  unfold fX3_isNameInFields
  obtain ⟨_, _, _, o1⟩ := h0.oE hke
  refine Ok.e (gOb_at o1) ?_
  refine Ok.e (gR_at o1 rfl) ?_
  refine Ok.b (h0.count (rkE1 hke)) (fun x2 hu2 => ?_)
  refine Ok.i (fun c3 => ?_) (fun c3 => ?_)
  · unfold jX3_isNameInFields_19
    refine Ok.e gZ_1 ?_
    exact Ok.s (by first | exact Or.inl rfl | exact Or.inr rfl | assumption | exact And.left (by assumption))
  · refine Ok.b (pX3_split h0 (hke)) (fun x5 h4 => ?_)
    refine Ok.i (fun c5 => ?_) (fun c5 => ?_)
    · refine Ok.e gZ_0 ?_
      exact Ok.s (by first | exact Or.inl rfl | exact Or.inr rfl | assumption | exact And.left (by assumption))
    · unfold jX3_isNameInFields_19
      refine Ok.e gZ_1 ?_
      exact Ok.s (by first | exact Or.inl rfl | exact Or.inr rfl | assumption | exact And.left (by assumption))
theorem pX2_addRow {v : Nat → Nat} {G0 G : gH} {b : Nat} {O : Nat → Nat → Int32} {P : Nat → Nat → Int64}  (h0 : Rch v G0 b O P 3 11 G) {a1 : Nat} (hs : StrLo b G0 a1) {kr : Nat} (hkr : rkB kr = true) (hne : kr ≠ 3 ∧ kr ≠ 7) : Ok (Rch v G0 b O P 3 11) (fX2_addRow v G (b + 6) a1 (b + kr)) := by
  have hrlkr := rkB_lt hkr
  unfold fX2_addRow
  have o1 := h0.oW
  refine Ok.e (gOb_at o1) ?_
  obtain ⟨_, sl2⟩ := (h0.str hs).st
  refine Ok.e (str_len sl2) ?_
  refine Ok.b (h0.count hkr) (fun x3 hu3 => ?_)
  refine Ok.e rfl ?_
  refine Ok.b (t_decimalWidth _) (fun _ _ => ?_)
  refine Ok.e rfl ?_
  refine Ok.e (gR_at o1 rfl) ?_
  refine Ok.b (t_decimalWidth _) (fun _ _ => ?_)
  refine Ok.b (h0.rop rk7 (by omega) (s_addDecimal (h0.rs rk7) _)) (fun x12 h4 => ?_)
  have o5 := h4.oW
  refine Ok.e (gR_at o5 rfl) ?_
  refine Ok.b (h4.rop rk7 (by omega) (s_add (h4.rs rk7) _)) (fun x15 h6 => ?_)
  have o7 := h6.oW
  refine Ok.e (gR_at o7 rfl) ?_
  refine Ok.b (h6.rop rk7 (by omega) (s_addText (h6.rs rk7) (h6.str hs) (by omega))) (fun x18 h8 => ?_)
  have o9 := h8.oW
  refine Ok.e (gR_at o9 rfl) ?_
  refine Ok.b (h8.rop rk7 (by omega) (s_add (h8.rs rk7) _)) (fun x21 h10 => ?_)
  have o11 := h10.oW
  refine Ok.e (gR_at o11 rfl) ?_
  refine Ok.b (h10.count hkr) (fun x24 hu12 => ?_)
  refine Ok.b (h10.rop rk7 (by omega) (s_addPart (h10.rs rk7) (h10.rs hkr) (by omega) _ _)) (fun x26 h13 => ?_)
  have o14 := h13.oW
  refine Ok.e (gR_at o14 rfl) ?_
  refine Ok.b (h13.rop rk7 (by omega) (s_add (h13.rs rk7) _)) (fun x29 h15 => ?_)
  exact Ok.s h15
theorem pX3_fits {v : Nat → Nat} {G0 G : gH} {b : Nat} {O : Nat → Nat → Int32} {P : Nat → Nat → Int64} {lo hi : Nat} {a0 : Int64} {a1 : Int32} (h0 : Rch v G0 b O P lo hi G) : Ok (fun x => x = 0 ∨ x = 1) (fX3_fits v G a0 a1) := by
  unfold fX3_fits
  refine Ok.i (fun c1 => ?_) (fun c1 => ?_)
  · refine Ok.e gZ_0 ?_
    exact Ok.s (by first | exact Or.inl rfl | exact Or.inr rfl | assumption | exact And.left (by assumption))
  · refine Ok.i (fun c2 => ?_) (fun c2 => ?_)
    · refine Ok.e gZ_0 ?_
      exact Ok.s (by first | exact Or.inl rfl | exact Or.inr rfl | assumption | exact And.left (by assumption))
    · refine Ok.e gZ_1 ?_
      exact Ok.s (by first | exact Or.inl rfl | exact Or.inr rfl | assumption | exact And.left (by assumption))
theorem pX2_addNumberRow {v : Nat → Nat} {G0 G : gH} {b : Nat} {O : Nat → Nat → Int32} {P : Nat → Nat → Int64} {a2 : Int64} (h0 : Rch v G0 b O P 3 11 G) {a1 : Nat} (hs : StrLo b G0 a1) : Ok (Rch v G0 b O P 3 11) (fX2_addNumberRow v G (b + 6) a1 a2) := by
  unfold fX2_addNumberRow
  have o1 := h0.oW
  refine Ok.e (gOb_at o1) ?_
  refine Ok.e (gR_at o1 rfl) ?_
  refine Ok.b (h0.rop rk9 (by omega) (s_empty (h0.rs rk9))) (fun x2 h2 => ?_)
  have o3 := h2.oW
  refine Ok.e (gR_at o3 rfl) ?_
  refine Ok.b (h2.rop rk9 (by omega) (s_addDecimal (h2.rs rk9) _)) (fun x5 h4 => ?_)
  have o5 := h4.oW
  refine Ok.e (gR_at o5 rfl) ?_
  refine Ok.b (pX2_addRow h4 (hs) (rk9) (by omega)) (fun x8 h6 => ?_)
  exact Ok.s h6
theorem qX2_addFraction_18 {v : Nat → Nat} {G0 G : gH} {b : Nat} {O : Nat → Nat → Int32} {P : Nat → Nat → Int64} (h0 : Rch v G0 b O P 3 11 G)  : ∀ (n : Nat) (y2 : Int32) (y3 : Int32), y3.toInt.toNat < n → Ok (Rch v G0 b O P 3 11) (lX2_addFraction_18 v n G (b + 6) y2 y3) := by
  have lp : ∀ (n : Nat) (G : gH) (y2 : Int32) (y3 : Int32), Rch v G0 b O P 3 11 G → y3.toInt.toNat < n → Ok (Rch v G0 b O P 3 11) (lX2_addFraction_18 v n G (b + 6) y2 y3) := by
    intro n
    induction n with
    | zero => intro G y2 y3 _ h; exact absurd h (Nat.not_lt_zero _)
    | succ n ih =>
      intro G y2 y3 h0 hm
      show Ok _ (bX2_addFraction_18 v (lX2_addFraction_18 v n) G (b + 6) y2 y3)
      unfold bX2_addFraction_18
      refine Ok.i (fun c1 => ?_) (fun c1 => ?_)
      · exact Ok.s h0
      · refine Ok.i (fun c2 => ?_) (fun c2 => ?_)
        · exact Ok.s h0
        · have o3 := h0.oW
          refine Ok.e (gR_at o3 rfl) ?_
          refine Ok.i (fun c4 => ?_) (fun c4 => ?_)
          · exact absurd c4 (i32_pos (by assumption))
          · refine Ok.b (h0.rop rk9 (by omega) (s_add (h0.rs rk9) _)) (fun x5 h5 => ?_)
            refine Ok.i (fun c6 => ?_) (fun c6 => ?_)
            · exact absurd c6 (i32_pos (by assumption))
            · refine Ok.e rfl ?_
              refine Ok.e rfl ?_
              exact ih _ _ _ h5  (div10 (by assumption) hm)
  intro n y2 y3 hm
  exact lp n G y2 y3 h0 hm
theorem pX2_addFraction {v : Nat → Nat} {G0 G : gH} {b : Nat} {O : Nat → Nat → Int32} {P : Nat → Nat → Int64} {a1 : Int32} (h0 : Rch v G0 b O P 3 11 G) : Ok (Rch v G0 b O P 3 11) (fX2_addFraction v G (b + 6) a1) := by
  unfold fX2_addFraction
  have o1 := h0.oW
  refine Ok.e (gOb_at o1) ?_
  refine Ok.i (fun c2 => ?_) (fun c2 => ?_)
  · unfold jX2_addFraction_13
    exact qX2_addFraction_18 h0  gFu _ _ (tn_fu _)
  · refine Ok.e (gR_at o1 rfl) ?_
    refine Ok.b (h0.rop rk9 (by omega) (s_add (h0.rs rk9) _)) (fun x3 h3 => ?_)
    unfold jX2_addFraction_13
    exact qX2_addFraction_18 h3  gFu _ _ (tn_fu _)
theorem pX2_makeTime {v : Nat → Nat} {G0 G : gH} {b : Nat} {O : Nat → Nat → Int32} {P : Nat → Nat → Int64} {a1 : Int64} {a2 : Int32} (h0 : Rch v G0 b O P 3 11 G) : Ok (Rch v G0 b O P 3 11) (fX2_makeTime v G (b + 6) a1 a2) := by
  unfold fX2_makeTime
  have o1 := h0.oW
  refine Ok.e (gOb_at o1) ?_
  refine Ok.i (fun c2 => ?_) (fun c2 => ?_)
  · unfold jX2_makeTime_11
    refine Ok.i (fun c3 => ?_) (fun c3 => ?_)
    · unfold jX2_makeTime_26
      unfold jX2_makeTime_27
      refine Ok.i (fun c4 => ?_) (fun c4 => ?_)
      · refine Ok.e rfl ?_
        unfold jX2_makeTime_45
        refine Ok.e (gR_at o1 rfl) ?_
        refine Ok.b (h0.rop rk9 (by omega) (s_empty (h0.rs rk9))) (fun x2 h5 => ?_)
        refine Ok.i (fun c6 => ?_) (fun c6 => ?_)
        · unfold jX2_makeTime_68
          have o7 := h5.oW
          refine Ok.e (gR_at o7 rfl) ?_
          refine Ok.b (h5.rop rk9 (by omega) (s_addDecimal (h5.rs rk9) _)) (fun x2 h8 => ?_)
          refine Ok.i (fun c9 => ?_) (fun c9 => ?_)
          · unfold jX2_makeTime_91
            refine Ok.b (pX2_addFraction h8 ) (fun x1 h10 => ?_)
            exact Ok.s h10
          · unfold jX2_makeTime_91
            refine Ok.b (pX2_addFraction h8 ) (fun x1 h11 => ?_)
            exact Ok.s h11
        · have o12 := h5.oW
          refine Ok.e (gR_at o12 rfl) ?_
          refine Ok.b (h5.rop rk9 (by omega) (s_add (h5.rs rk9) _)) (fun x6 h13 => ?_)
          unfold jX2_makeTime_68
          have o14 := h13.oW
          refine Ok.e (gR_at o14 rfl) ?_
          refine Ok.b (h13.rop rk9 (by omega) (s_addDecimal (h13.rs rk9) _)) (fun x2 h15 => ?_)
          refine Ok.i (fun c16 => ?_) (fun c16 => ?_)
          · unfold jX2_makeTime_91
            refine Ok.b (pX2_addFraction h15 ) (fun x1 h17 => ?_)
            exact Ok.s h17
          · unfold jX2_makeTime_91
            refine Ok.b (pX2_addFraction h15 ) (fun x1 h18 => ?_)
            exact Ok.s h18
      · unfold jX2_makeTime_45
        refine Ok.e (gR_at o1 rfl) ?_
        refine Ok.b (h0.rop rk9 (by omega) (s_empty (h0.rs rk9))) (fun x2 h19 => ?_)
        refine Ok.i (fun c20 => ?_) (fun c20 => ?_)
        · unfold jX2_makeTime_68
          have o21 := h19.oW
          refine Ok.e (gR_at o21 rfl) ?_
          refine Ok.b (h19.rop rk9 (by omega) (s_addDecimal (h19.rs rk9) _)) (fun x2 h22 => ?_)
          refine Ok.i (fun c23 => ?_) (fun c23 => ?_)
          · unfold jX2_makeTime_91
            refine Ok.b (pX2_addFraction h22 ) (fun x1 h24 => ?_)
            exact Ok.s h24
          · unfold jX2_makeTime_91
            refine Ok.b (pX2_addFraction h22 ) (fun x1 h25 => ?_)
            exact Ok.s h25
        · have o26 := h19.oW
          refine Ok.e (gR_at o26 rfl) ?_
          refine Ok.b (h19.rop rk9 (by omega) (s_add (h19.rs rk9) _)) (fun x6 h27 => ?_)
          unfold jX2_makeTime_68
          have o28 := h27.oW
          refine Ok.e (gR_at o28 rfl) ?_
          refine Ok.b (h27.rop rk9 (by omega) (s_addDecimal (h27.rs rk9) _)) (fun x2 h29 => ?_)
          refine Ok.i (fun c30 => ?_) (fun c30 => ?_)
          · unfold jX2_makeTime_91
            refine Ok.b (pX2_addFraction h29 ) (fun x1 h31 => ?_)
            exact Ok.s h31
          · unfold jX2_makeTime_91
            refine Ok.b (pX2_addFraction h29 ) (fun x1 h32 => ?_)
            exact Ok.s h32
    · refine Ok.i (fun c33 => ?_) (fun c33 => ?_)
      · unfold jX2_makeTime_26
        unfold jX2_makeTime_27
        refine Ok.i (fun c34 => ?_) (fun c34 => ?_)
        · refine Ok.e rfl ?_
          unfold jX2_makeTime_45
          refine Ok.e (gR_at o1 rfl) ?_
          refine Ok.b (h0.rop rk9 (by omega) (s_empty (h0.rs rk9))) (fun x2 h35 => ?_)
          refine Ok.i (fun c36 => ?_) (fun c36 => ?_)
          · unfold jX2_makeTime_68
            have o37 := h35.oW
            refine Ok.e (gR_at o37 rfl) ?_
            refine Ok.b (h35.rop rk9 (by omega) (s_addDecimal (h35.rs rk9) _)) (fun x2 h38 => ?_)
            refine Ok.i (fun c39 => ?_) (fun c39 => ?_)
            · unfold jX2_makeTime_91
              refine Ok.b (pX2_addFraction h38 ) (fun x1 h40 => ?_)
              exact Ok.s h40
            · unfold jX2_makeTime_91
              refine Ok.b (pX2_addFraction h38 ) (fun x1 h41 => ?_)
              exact Ok.s h41
          · have o42 := h35.oW
            refine Ok.e (gR_at o42 rfl) ?_
            refine Ok.b (h35.rop rk9 (by omega) (s_add (h35.rs rk9) _)) (fun x6 h43 => ?_)
            unfold jX2_makeTime_68
            have o44 := h43.oW
            refine Ok.e (gR_at o44 rfl) ?_
            refine Ok.b (h43.rop rk9 (by omega) (s_addDecimal (h43.rs rk9) _)) (fun x2 h45 => ?_)
            refine Ok.i (fun c46 => ?_) (fun c46 => ?_)
            · unfold jX2_makeTime_91
              refine Ok.b (pX2_addFraction h45 ) (fun x1 h47 => ?_)
              exact Ok.s h47
            · unfold jX2_makeTime_91
              refine Ok.b (pX2_addFraction h45 ) (fun x1 h48 => ?_)
              exact Ok.s h48
        · unfold jX2_makeTime_45
          refine Ok.e (gR_at o1 rfl) ?_
          refine Ok.b (h0.rop rk9 (by omega) (s_empty (h0.rs rk9))) (fun x2 h49 => ?_)
          refine Ok.i (fun c50 => ?_) (fun c50 => ?_)
          · unfold jX2_makeTime_68
            have o51 := h49.oW
            refine Ok.e (gR_at o51 rfl) ?_
            refine Ok.b (h49.rop rk9 (by omega) (s_addDecimal (h49.rs rk9) _)) (fun x2 h52 => ?_)
            refine Ok.i (fun c53 => ?_) (fun c53 => ?_)
            · unfold jX2_makeTime_91
              refine Ok.b (pX2_addFraction h52 ) (fun x1 h54 => ?_)
              exact Ok.s h54
            · unfold jX2_makeTime_91
              refine Ok.b (pX2_addFraction h52 ) (fun x1 h55 => ?_)
              exact Ok.s h55
          · have o56 := h49.oW
            refine Ok.e (gR_at o56 rfl) ?_
            refine Ok.b (h49.rop rk9 (by omega) (s_add (h49.rs rk9) _)) (fun x6 h57 => ?_)
            unfold jX2_makeTime_68
            have o58 := h57.oW
            refine Ok.e (gR_at o58 rfl) ?_
            refine Ok.b (h57.rop rk9 (by omega) (s_addDecimal (h57.rs rk9) _)) (fun x2 h59 => ?_)
            refine Ok.i (fun c60 => ?_) (fun c60 => ?_)
            · unfold jX2_makeTime_91
              refine Ok.b (pX2_addFraction h59 ) (fun x1 h61 => ?_)
              exact Ok.s h61
            · unfold jX2_makeTime_91
              refine Ok.b (pX2_addFraction h59 ) (fun x1 h62 => ?_)
              exact Ok.s h62
      · unfold jX2_makeTime_27
        refine Ok.i (fun c63 => ?_) (fun c63 => ?_)
        · refine Ok.e rfl ?_
          unfold jX2_makeTime_45
          refine Ok.e (gR_at o1 rfl) ?_
          refine Ok.b (h0.rop rk9 (by omega) (s_empty (h0.rs rk9))) (fun x2 h64 => ?_)
          refine Ok.i (fun c65 => ?_) (fun c65 => ?_)
          · unfold jX2_makeTime_68
            have o66 := h64.oW
            refine Ok.e (gR_at o66 rfl) ?_
            refine Ok.b (h64.rop rk9 (by omega) (s_addDecimal (h64.rs rk9) _)) (fun x2 h67 => ?_)
            refine Ok.i (fun c68 => ?_) (fun c68 => ?_)
            · unfold jX2_makeTime_91
              refine Ok.b (pX2_addFraction h67 ) (fun x1 h69 => ?_)
              exact Ok.s h69
            · unfold jX2_makeTime_91
              refine Ok.b (pX2_addFraction h67 ) (fun x1 h70 => ?_)
              exact Ok.s h70
          · have o71 := h64.oW
            refine Ok.e (gR_at o71 rfl) ?_
            refine Ok.b (h64.rop rk9 (by omega) (s_add (h64.rs rk9) _)) (fun x6 h72 => ?_)
            unfold jX2_makeTime_68
            have o73 := h72.oW
            refine Ok.e (gR_at o73 rfl) ?_
            refine Ok.b (h72.rop rk9 (by omega) (s_addDecimal (h72.rs rk9) _)) (fun x2 h74 => ?_)
            refine Ok.i (fun c75 => ?_) (fun c75 => ?_)
            · unfold jX2_makeTime_91
              refine Ok.b (pX2_addFraction h74 ) (fun x1 h76 => ?_)
              exact Ok.s h76
            · unfold jX2_makeTime_91
              refine Ok.b (pX2_addFraction h74 ) (fun x1 h77 => ?_)
              exact Ok.s h77
        · unfold jX2_makeTime_45
          refine Ok.e (gR_at o1 rfl) ?_
          refine Ok.b (h0.rop rk9 (by omega) (s_empty (h0.rs rk9))) (fun x2 h78 => ?_)
          refine Ok.i (fun c79 => ?_) (fun c79 => ?_)
          · unfold jX2_makeTime_68
            have o80 := h78.oW
            refine Ok.e (gR_at o80 rfl) ?_
            refine Ok.b (h78.rop rk9 (by omega) (s_addDecimal (h78.rs rk9) _)) (fun x2 h81 => ?_)
            refine Ok.i (fun c82 => ?_) (fun c82 => ?_)
            · unfold jX2_makeTime_91
              refine Ok.b (pX2_addFraction h81 ) (fun x1 h83 => ?_)
              exact Ok.s h83
            · unfold jX2_makeTime_91
              refine Ok.b (pX2_addFraction h81 ) (fun x1 h84 => ?_)
              exact Ok.s h84
          · have o85 := h78.oW
            refine Ok.e (gR_at o85 rfl) ?_
            refine Ok.b (h78.rop rk9 (by omega) (s_add (h78.rs rk9) _)) (fun x6 h86 => ?_)
            unfold jX2_makeTime_68
            have o87 := h86.oW
            refine Ok.e (gR_at o87 rfl) ?_
            refine Ok.b (h86.rop rk9 (by omega) (s_addDecimal (h86.rs rk9) _)) (fun x2 h88 => ?_)
            refine Ok.i (fun c89 => ?_) (fun c89 => ?_)
            · unfold jX2_makeTime_91
              refine Ok.b (pX2_addFraction h88 ) (fun x1 h90 => ?_)
              exact Ok.s h90
            · unfold jX2_makeTime_91
              refine Ok.b (pX2_addFraction h88 ) (fun x1 h91 => ?_)
              exact Ok.s h91
  · unfold jX2_makeTime_11
    refine Ok.i (fun c92 => ?_) (fun c92 => ?_)
    · unfold jX2_makeTime_26
      unfold jX2_makeTime_27
      refine Ok.i (fun c93 => ?_) (fun c93 => ?_)
      · refine Ok.e rfl ?_
        unfold jX2_makeTime_45
        refine Ok.e (gR_at o1 rfl) ?_
        refine Ok.b (h0.rop rk9 (by omega) (s_empty (h0.rs rk9))) (fun x2 h94 => ?_)
        refine Ok.i (fun c95 => ?_) (fun c95 => ?_)
        · unfold jX2_makeTime_68
          have o96 := h94.oW
          refine Ok.e (gR_at o96 rfl) ?_
          refine Ok.b (h94.rop rk9 (by omega) (s_addDecimal (h94.rs rk9) _)) (fun x2 h97 => ?_)
          refine Ok.i (fun c98 => ?_) (fun c98 => ?_)
          · unfold jX2_makeTime_91
            refine Ok.b (pX2_addFraction h97 ) (fun x1 h99 => ?_)
            exact Ok.s h99
          · unfold jX2_makeTime_91
            refine Ok.b (pX2_addFraction h97 ) (fun x1 h100 => ?_)
            exact Ok.s h100
        · have o101 := h94.oW
          refine Ok.e (gR_at o101 rfl) ?_
          refine Ok.b (h94.rop rk9 (by omega) (s_add (h94.rs rk9) _)) (fun x6 h102 => ?_)
          unfold jX2_makeTime_68
          have o103 := h102.oW
          refine Ok.e (gR_at o103 rfl) ?_
          refine Ok.b (h102.rop rk9 (by omega) (s_addDecimal (h102.rs rk9) _)) (fun x2 h104 => ?_)
          refine Ok.i (fun c105 => ?_) (fun c105 => ?_)
          · unfold jX2_makeTime_91
            refine Ok.b (pX2_addFraction h104 ) (fun x1 h106 => ?_)
            exact Ok.s h106
          · unfold jX2_makeTime_91
            refine Ok.b (pX2_addFraction h104 ) (fun x1 h107 => ?_)
            exact Ok.s h107
      · unfold jX2_makeTime_45
        refine Ok.e (gR_at o1 rfl) ?_
        refine Ok.b (h0.rop rk9 (by omega) (s_empty (h0.rs rk9))) (fun x2 h108 => ?_)
        refine Ok.i (fun c109 => ?_) (fun c109 => ?_)
        · unfold jX2_makeTime_68
          have o110 := h108.oW
          refine Ok.e (gR_at o110 rfl) ?_
          refine Ok.b (h108.rop rk9 (by omega) (s_addDecimal (h108.rs rk9) _)) (fun x2 h111 => ?_)
          refine Ok.i (fun c112 => ?_) (fun c112 => ?_)
          · unfold jX2_makeTime_91
            refine Ok.b (pX2_addFraction h111 ) (fun x1 h113 => ?_)
            exact Ok.s h113
          · unfold jX2_makeTime_91
            refine Ok.b (pX2_addFraction h111 ) (fun x1 h114 => ?_)
            exact Ok.s h114
        · have o115 := h108.oW
          refine Ok.e (gR_at o115 rfl) ?_
          refine Ok.b (h108.rop rk9 (by omega) (s_add (h108.rs rk9) _)) (fun x6 h116 => ?_)
          unfold jX2_makeTime_68
          have o117 := h116.oW
          refine Ok.e (gR_at o117 rfl) ?_
          refine Ok.b (h116.rop rk9 (by omega) (s_addDecimal (h116.rs rk9) _)) (fun x2 h118 => ?_)
          refine Ok.i (fun c119 => ?_) (fun c119 => ?_)
          · unfold jX2_makeTime_91
            refine Ok.b (pX2_addFraction h118 ) (fun x1 h120 => ?_)
            exact Ok.s h120
          · unfold jX2_makeTime_91
            refine Ok.b (pX2_addFraction h118 ) (fun x1 h121 => ?_)
            exact Ok.s h121
    · refine Ok.i (fun c122 => ?_) (fun c122 => ?_)
      · unfold jX2_makeTime_26
        unfold jX2_makeTime_27
        refine Ok.i (fun c123 => ?_) (fun c123 => ?_)
        · refine Ok.e rfl ?_
          unfold jX2_makeTime_45
          refine Ok.e (gR_at o1 rfl) ?_
          refine Ok.b (h0.rop rk9 (by omega) (s_empty (h0.rs rk9))) (fun x2 h124 => ?_)
          refine Ok.i (fun c125 => ?_) (fun c125 => ?_)
          · unfold jX2_makeTime_68
            have o126 := h124.oW
            refine Ok.e (gR_at o126 rfl) ?_
            refine Ok.b (h124.rop rk9 (by omega) (s_addDecimal (h124.rs rk9) _)) (fun x2 h127 => ?_)
            refine Ok.i (fun c128 => ?_) (fun c128 => ?_)
            · unfold jX2_makeTime_91
              refine Ok.b (pX2_addFraction h127 ) (fun x1 h129 => ?_)
              exact Ok.s h129
            · unfold jX2_makeTime_91
              refine Ok.b (pX2_addFraction h127 ) (fun x1 h130 => ?_)
              exact Ok.s h130
          · have o131 := h124.oW
            refine Ok.e (gR_at o131 rfl) ?_
            refine Ok.b (h124.rop rk9 (by omega) (s_add (h124.rs rk9) _)) (fun x6 h132 => ?_)
            unfold jX2_makeTime_68
            have o133 := h132.oW
            refine Ok.e (gR_at o133 rfl) ?_
            refine Ok.b (h132.rop rk9 (by omega) (s_addDecimal (h132.rs rk9) _)) (fun x2 h134 => ?_)
            refine Ok.i (fun c135 => ?_) (fun c135 => ?_)
            · unfold jX2_makeTime_91
              refine Ok.b (pX2_addFraction h134 ) (fun x1 h136 => ?_)
              exact Ok.s h136
            · unfold jX2_makeTime_91
              refine Ok.b (pX2_addFraction h134 ) (fun x1 h137 => ?_)
              exact Ok.s h137
        · unfold jX2_makeTime_45
          refine Ok.e (gR_at o1 rfl) ?_
          refine Ok.b (h0.rop rk9 (by omega) (s_empty (h0.rs rk9))) (fun x2 h138 => ?_)
          refine Ok.i (fun c139 => ?_) (fun c139 => ?_)
          · unfold jX2_makeTime_68
            have o140 := h138.oW
            refine Ok.e (gR_at o140 rfl) ?_
            refine Ok.b (h138.rop rk9 (by omega) (s_addDecimal (h138.rs rk9) _)) (fun x2 h141 => ?_)
            refine Ok.i (fun c142 => ?_) (fun c142 => ?_)
            · unfold jX2_makeTime_91
              refine Ok.b (pX2_addFraction h141 ) (fun x1 h143 => ?_)
              exact Ok.s h143
            · unfold jX2_makeTime_91
              refine Ok.b (pX2_addFraction h141 ) (fun x1 h144 => ?_)
              exact Ok.s h144
          · have o145 := h138.oW
            refine Ok.e (gR_at o145 rfl) ?_
            refine Ok.b (h138.rop rk9 (by omega) (s_add (h138.rs rk9) _)) (fun x6 h146 => ?_)
            unfold jX2_makeTime_68
            have o147 := h146.oW
            refine Ok.e (gR_at o147 rfl) ?_
            refine Ok.b (h146.rop rk9 (by omega) (s_addDecimal (h146.rs rk9) _)) (fun x2 h148 => ?_)
            refine Ok.i (fun c149 => ?_) (fun c149 => ?_)
            · unfold jX2_makeTime_91
              refine Ok.b (pX2_addFraction h148 ) (fun x1 h150 => ?_)
              exact Ok.s h150
            · unfold jX2_makeTime_91
              refine Ok.b (pX2_addFraction h148 ) (fun x1 h151 => ?_)
              exact Ok.s h151
      · unfold jX2_makeTime_27
        refine Ok.i (fun c152 => ?_) (fun c152 => ?_)
        · refine Ok.e rfl ?_
          unfold jX2_makeTime_45
          refine Ok.e (gR_at o1 rfl) ?_
          refine Ok.b (h0.rop rk9 (by omega) (s_empty (h0.rs rk9))) (fun x2 h153 => ?_)
          refine Ok.i (fun c154 => ?_) (fun c154 => ?_)
          · unfold jX2_makeTime_68
            have o155 := h153.oW
            refine Ok.e (gR_at o155 rfl) ?_
            refine Ok.b (h153.rop rk9 (by omega) (s_addDecimal (h153.rs rk9) _)) (fun x2 h156 => ?_)
            refine Ok.i (fun c157 => ?_) (fun c157 => ?_)
            · unfold jX2_makeTime_91
              refine Ok.b (pX2_addFraction h156 ) (fun x1 h158 => ?_)
              exact Ok.s h158
            · unfold jX2_makeTime_91
              refine Ok.b (pX2_addFraction h156 ) (fun x1 h159 => ?_)
              exact Ok.s h159
          · have o160 := h153.oW
            refine Ok.e (gR_at o160 rfl) ?_
            refine Ok.b (h153.rop rk9 (by omega) (s_add (h153.rs rk9) _)) (fun x6 h161 => ?_)
            unfold jX2_makeTime_68
            have o162 := h161.oW
            refine Ok.e (gR_at o162 rfl) ?_
            refine Ok.b (h161.rop rk9 (by omega) (s_addDecimal (h161.rs rk9) _)) (fun x2 h163 => ?_)
            refine Ok.i (fun c164 => ?_) (fun c164 => ?_)
            · unfold jX2_makeTime_91
              refine Ok.b (pX2_addFraction h163 ) (fun x1 h165 => ?_)
              exact Ok.s h165
            · unfold jX2_makeTime_91
              refine Ok.b (pX2_addFraction h163 ) (fun x1 h166 => ?_)
              exact Ok.s h166
        · unfold jX2_makeTime_45
          refine Ok.e (gR_at o1 rfl) ?_
          refine Ok.b (h0.rop rk9 (by omega) (s_empty (h0.rs rk9))) (fun x2 h167 => ?_)
          refine Ok.i (fun c168 => ?_) (fun c168 => ?_)
          · unfold jX2_makeTime_68
            have o169 := h167.oW
            refine Ok.e (gR_at o169 rfl) ?_
            refine Ok.b (h167.rop rk9 (by omega) (s_addDecimal (h167.rs rk9) _)) (fun x2 h170 => ?_)
            refine Ok.i (fun c171 => ?_) (fun c171 => ?_)
            · unfold jX2_makeTime_91
              refine Ok.b (pX2_addFraction h170 ) (fun x1 h172 => ?_)
              exact Ok.s h172
            · unfold jX2_makeTime_91
              refine Ok.b (pX2_addFraction h170 ) (fun x1 h173 => ?_)
              exact Ok.s h173
          · have o174 := h167.oW
            refine Ok.e (gR_at o174 rfl) ?_
            refine Ok.b (h167.rop rk9 (by omega) (s_add (h167.rs rk9) _)) (fun x6 h175 => ?_)
            unfold jX2_makeTime_68
            have o176 := h175.oW
            refine Ok.e (gR_at o176 rfl) ?_
            refine Ok.b (h175.rop rk9 (by omega) (s_addDecimal (h175.rs rk9) _)) (fun x2 h177 => ?_)
            refine Ok.i (fun c178 => ?_) (fun c178 => ?_)
            · unfold jX2_makeTime_91
              refine Ok.b (pX2_addFraction h177 ) (fun x1 h179 => ?_)
              exact Ok.s h179
            · unfold jX2_makeTime_91
              refine Ok.b (pX2_addFraction h177 ) (fun x1 h180 => ?_)
              exact Ok.s h180
theorem pX2_makeRows {v : Nat → Nat} {G0 G : gH} {b : Nat} {O : Nat → Nat → Int32} {P : Nat → Nat → Int64}  (h0 : Rch v G0 b O P 3 11 G) {ke : Nat} (hke : ekB ke = true) : Ok (Rch v G0 b O P 3 11) (fX2_makeRows v G (b + 6) (b + ke)) := by
  have ze := ekB_iff.mp hke
  unfold fX2_makeRows
  have o1 := h0.oW
  refine Ok.e (gOb_at o1) ?_
  refine Ok.e (gR_at o1 rfl) ?_
  refine Ok.b (h0.rop rk7 (by omega) (s_empty (h0.rs rk7))) (fun x2 h2 => ?_)
  refine Ok.b (pX3_isNameInFields h2 (hke)) (fun x4 h3 => ?_)
  refine Ok.i (fun c4 => ?_) (fun c4 => ?_)
  · have o5 := h2.oE' hke (by omega)
    refine Ok.e (gR_at o5 rfl) ?_
    refine Ok.b (pX2_addRow h2 (h2.strs ⟨by decide, by decide⟩) ((rkE1 hke)) (by omega)) (fun x8 h6 => ?_)
    unfold jX2_makeRows_24
    have o7 := h6.oE' hke (by omega)
    refine Ok.e (gR_at o7 rfl) ?_
    refine Ok.b (h6.count (rkE3 hke)) (fun x2 hu8 => ?_)
    refine Ok.i (fun c9 => ?_) (fun c9 => ?_)
    · unfold jX2_makeRows_46
      refine Ok.e (gR_at o7 rfl) ?_
      refine Ok.b (h6.ldE (j := 1) hke (by decide)) (fun _ _ => ?_)
      refine Ok.b (pX3_fits h6 ) (fun x3 h10 => ?_)
      refine Ok.i (fun c11 => ?_) (fun c11 => ?_)
      · refine Ok.e (gR_at o7 rfl) ?_
        refine Ok.b (h6.ldE (j := 1) hke (by decide)) (fun _ _ => ?_)
        refine Ok.b (pX2_addNumberRow h6 (h6.strs ⟨by decide, by decide⟩)) (fun x8 h12 => ?_)
        unfold jX2_makeRows_72
        have o13 := h12.oE' hke (by omega)
        refine Ok.e (gR_at o13 rfl) ?_
        refine Ok.b (h12.ldE (j := 2) hke (by decide)) (fun _ _ => ?_)
        refine Ok.b (pX3_fits h12 ) (fun x3 h14 => ?_)
        refine Ok.i (fun c15 => ?_) (fun c15 => ?_)
        · refine Ok.e (gR_at o13 rfl) ?_
          refine Ok.b (h12.ldE (j := 2) hke (by decide)) (fun _ _ => ?_)
          refine Ok.b (pX2_addNumberRow h12 (h12.strs ⟨by decide, by decide⟩)) (fun x8 h16 => ?_)
          unfold jX2_makeRows_98
          have o17 := h16.oE' hke (by omega)
          refine Ok.e (gR_at o17 rfl) ?_
          refine Ok.b (h16.ldE (j := 3) hke (by decide)) (fun _ _ => ?_)
          refine Ok.b (pX3_fits h16 ) (fun x3 h18 => ?_)
          refine Ok.i (fun c19 => ?_) (fun c19 => ?_)
          · unfold jX2_makeRows_123
            refine Ok.e (gR_at o17 rfl) ?_
            refine Ok.b (h16.ldE (j := 3) hke (by decide)) (fun _ _ => ?_)
            refine Ok.e (gR_at o17 rfl) ?_
            refine Ok.b (h16.ldE (j := 4) hke (by decide)) (fun _ _ => ?_)
            refine Ok.b (pX2_makeTime h16 ) (fun x5 h20 => ?_)
            have o21 := h20.oW
            refine Ok.e (gR_at o21 rfl) ?_
            refine Ok.b (pX2_addRow h20 (h20.strs ⟨by decide, by decide⟩) (rk9) (by omega)) (fun x8 h22 => ?_)
            exact Ok.s h22
          · refine Ok.e (gR_at o17 rfl) ?_
            refine Ok.b (h16.ldE (j := 4) hke (by decide)) (fun _ _ => ?_)
            refine Ok.i (fun c23 => ?_) (fun c23 => ?_)
            · exact Ok.s h16
            · unfold jX2_makeRows_123
              refine Ok.e (gR_at o17 rfl) ?_
              refine Ok.b (h16.ldE (j := 3) hke (by decide)) (fun _ _ => ?_)
              refine Ok.e (gR_at o17 rfl) ?_
              refine Ok.b (h16.ldE (j := 4) hke (by decide)) (fun _ _ => ?_)
              refine Ok.b (pX2_makeTime h16 ) (fun x5 h24 => ?_)
              have o25 := h24.oW
              refine Ok.e (gR_at o25 rfl) ?_
              refine Ok.b (pX2_addRow h24 (h24.strs ⟨by decide, by decide⟩) (rk9) (by omega)) (fun x8 h26 => ?_)
              exact Ok.s h26
        · unfold jX2_makeRows_98
          refine Ok.e (gR_at o13 rfl) ?_
          refine Ok.b (h12.ldE (j := 3) hke (by decide)) (fun _ _ => ?_)
          refine Ok.b (pX3_fits h12 ) (fun x3 h27 => ?_)
          refine Ok.i (fun c28 => ?_) (fun c28 => ?_)
          · unfold jX2_makeRows_123
            refine Ok.e (gR_at o13 rfl) ?_
            refine Ok.b (h12.ldE (j := 3) hke (by decide)) (fun _ _ => ?_)
            refine Ok.e (gR_at o13 rfl) ?_
            refine Ok.b (h12.ldE (j := 4) hke (by decide)) (fun _ _ => ?_)
            refine Ok.b (pX2_makeTime h12 ) (fun x5 h29 => ?_)
            have o30 := h29.oW
            refine Ok.e (gR_at o30 rfl) ?_
            refine Ok.b (pX2_addRow h29 (h29.strs ⟨by decide, by decide⟩) (rk9) (by omega)) (fun x8 h31 => ?_)
            exact Ok.s h31
          · refine Ok.e (gR_at o13 rfl) ?_
            refine Ok.b (h12.ldE (j := 4) hke (by decide)) (fun _ _ => ?_)
            refine Ok.i (fun c32 => ?_) (fun c32 => ?_)
            · exact Ok.s h12
            · unfold jX2_makeRows_123
              refine Ok.e (gR_at o13 rfl) ?_
              refine Ok.b (h12.ldE (j := 3) hke (by decide)) (fun _ _ => ?_)
              refine Ok.e (gR_at o13 rfl) ?_
              refine Ok.b (h12.ldE (j := 4) hke (by decide)) (fun _ _ => ?_)
              refine Ok.b (pX2_makeTime h12 ) (fun x5 h33 => ?_)
              have o34 := h33.oW
              refine Ok.e (gR_at o34 rfl) ?_
              refine Ok.b (pX2_addRow h33 (h33.strs ⟨by decide, by decide⟩) (rk9) (by omega)) (fun x8 h35 => ?_)
              exact Ok.s h35
      · unfold jX2_makeRows_72
        refine Ok.e (gR_at o7 rfl) ?_
        refine Ok.b (h6.ldE (j := 2) hke (by decide)) (fun _ _ => ?_)
        refine Ok.b (pX3_fits h6 ) (fun x3 h36 => ?_)
        refine Ok.i (fun c37 => ?_) (fun c37 => ?_)
        · refine Ok.e (gR_at o7 rfl) ?_
          refine Ok.b (h6.ldE (j := 2) hke (by decide)) (fun _ _ => ?_)
          refine Ok.b (pX2_addNumberRow h6 (h6.strs ⟨by decide, by decide⟩)) (fun x8 h38 => ?_)
          unfold jX2_makeRows_98
          have o39 := h38.oE' hke (by omega)
          refine Ok.e (gR_at o39 rfl) ?_
          refine Ok.b (h38.ldE (j := 3) hke (by decide)) (fun _ _ => ?_)
          refine Ok.b (pX3_fits h38 ) (fun x3 h40 => ?_)
          refine Ok.i (fun c41 => ?_) (fun c41 => ?_)
          · unfold jX2_makeRows_123
            refine Ok.e (gR_at o39 rfl) ?_
            refine Ok.b (h38.ldE (j := 3) hke (by decide)) (fun _ _ => ?_)
            refine Ok.e (gR_at o39 rfl) ?_
            refine Ok.b (h38.ldE (j := 4) hke (by decide)) (fun _ _ => ?_)
            refine Ok.b (pX2_makeTime h38 ) (fun x5 h42 => ?_)
            have o43 := h42.oW
            refine Ok.e (gR_at o43 rfl) ?_
            refine Ok.b (pX2_addRow h42 (h42.strs ⟨by decide, by decide⟩) (rk9) (by omega)) (fun x8 h44 => ?_)
            exact Ok.s h44
          · refine Ok.e (gR_at o39 rfl) ?_
            refine Ok.b (h38.ldE (j := 4) hke (by decide)) (fun _ _ => ?_)
            refine Ok.i (fun c45 => ?_) (fun c45 => ?_)
            · exact Ok.s h38
            · unfold jX2_makeRows_123
              refine Ok.e (gR_at o39 rfl) ?_
              refine Ok.b (h38.ldE (j := 3) hke (by decide)) (fun _ _ => ?_)
              refine Ok.e (gR_at o39 rfl) ?_
              refine Ok.b (h38.ldE (j := 4) hke (by decide)) (fun _ _ => ?_)
              refine Ok.b (pX2_makeTime h38 ) (fun x5 h46 => ?_)
              have o47 := h46.oW
              refine Ok.e (gR_at o47 rfl) ?_
              refine Ok.b (pX2_addRow h46 (h46.strs ⟨by decide, by decide⟩) (rk9) (by omega)) (fun x8 h48 => ?_)
              exact Ok.s h48
        · unfold jX2_makeRows_98
          refine Ok.e (gR_at o7 rfl) ?_
          refine Ok.b (h6.ldE (j := 3) hke (by decide)) (fun _ _ => ?_)
          refine Ok.b (pX3_fits h6 ) (fun x3 h49 => ?_)
          refine Ok.i (fun c50 => ?_) (fun c50 => ?_)
          · unfold jX2_makeRows_123
            refine Ok.e (gR_at o7 rfl) ?_
            refine Ok.b (h6.ldE (j := 3) hke (by decide)) (fun _ _ => ?_)
            refine Ok.e (gR_at o7 rfl) ?_
            refine Ok.b (h6.ldE (j := 4) hke (by decide)) (fun _ _ => ?_)
            refine Ok.b (pX2_makeTime h6 ) (fun x5 h51 => ?_)
            have o52 := h51.oW
            refine Ok.e (gR_at o52 rfl) ?_
            refine Ok.b (pX2_addRow h51 (h51.strs ⟨by decide, by decide⟩) (rk9) (by omega)) (fun x8 h53 => ?_)
            exact Ok.s h53
          · refine Ok.e (gR_at o7 rfl) ?_
            refine Ok.b (h6.ldE (j := 4) hke (by decide)) (fun _ _ => ?_)
            refine Ok.i (fun c54 => ?_) (fun c54 => ?_)
            · exact Ok.s h6
            · unfold jX2_makeRows_123
              refine Ok.e (gR_at o7 rfl) ?_
              refine Ok.b (h6.ldE (j := 3) hke (by decide)) (fun _ _ => ?_)
              refine Ok.e (gR_at o7 rfl) ?_
              refine Ok.b (h6.ldE (j := 4) hke (by decide)) (fun _ _ => ?_)
              refine Ok.b (pX2_makeTime h6 ) (fun x5 h55 => ?_)
              have o56 := h55.oW
              refine Ok.e (gR_at o56 rfl) ?_
              refine Ok.b (pX2_addRow h55 (h55.strs ⟨by decide, by decide⟩) (rk9) (by omega)) (fun x8 h57 => ?_)
              exact Ok.s h57
    · refine Ok.e (gR_at o7 rfl) ?_
      refine Ok.b (pX2_addRow h6 (h6.strs ⟨by decide, by decide⟩) ((rkE3 hke)) (by omega)) (fun x6 h58 => ?_)
      unfold jX2_makeRows_46
      have o59 := h58.oE' hke (by omega)
      refine Ok.e (gR_at o59 rfl) ?_
      refine Ok.b (h58.ldE (j := 1) hke (by decide)) (fun _ _ => ?_)
      refine Ok.b (pX3_fits h58 ) (fun x3 h60 => ?_)
      refine Ok.i (fun c61 => ?_) (fun c61 => ?_)
      · refine Ok.e (gR_at o59 rfl) ?_
        refine Ok.b (h58.ldE (j := 1) hke (by decide)) (fun _ _ => ?_)
        refine Ok.b (pX2_addNumberRow h58 (h58.strs ⟨by decide, by decide⟩)) (fun x8 h62 => ?_)
        unfold jX2_makeRows_72
        have o63 := h62.oE' hke (by omega)
        refine Ok.e (gR_at o63 rfl) ?_
        refine Ok.b (h62.ldE (j := 2) hke (by decide)) (fun _ _ => ?_)
        refine Ok.b (pX3_fits h62 ) (fun x3 h64 => ?_)
        refine Ok.i (fun c65 => ?_) (fun c65 => ?_)
        · refine Ok.e (gR_at o63 rfl) ?_
          refine Ok.b (h62.ldE (j := 2) hke (by decide)) (fun _ _ => ?_)
          refine Ok.b (pX2_addNumberRow h62 (h62.strs ⟨by decide, by decide⟩)) (fun x8 h66 => ?_)
          unfold jX2_makeRows_98
          have o67 := h66.oE' hke (by omega)
          refine Ok.e (gR_at o67 rfl) ?_
          refine Ok.b (h66.ldE (j := 3) hke (by decide)) (fun _ _ => ?_)
          refine Ok.b (pX3_fits h66 ) (fun x3 h68 => ?_)
          refine Ok.i (fun c69 => ?_) (fun c69 => ?_)
          · unfold jX2_makeRows_123
            refine Ok.e (gR_at o67 rfl) ?_
            refine Ok.b (h66.ldE (j := 3) hke (by decide)) (fun _ _ => ?_)
            refine Ok.e (gR_at o67 rfl) ?_
            refine Ok.b (h66.ldE (j := 4) hke (by decide)) (fun _ _ => ?_)
            refine Ok.b (pX2_makeTime h66 ) (fun x5 h70 => ?_)
            have o71 := h70.oW
            refine Ok.e (gR_at o71 rfl) ?_
            refine Ok.b (pX2_addRow h70 (h70.strs ⟨by decide, by decide⟩) (rk9) (by omega)) (fun x8 h72 => ?_)
            exact Ok.s h72
          · refine Ok.e (gR_at o67 rfl) ?_
            refine Ok.b (h66.ldE (j := 4) hke (by decide)) (fun _ _ => ?_)
            refine Ok.i (fun c73 => ?_) (fun c73 => ?_)
            · exact Ok.s h66
            · unfold jX2_makeRows_123
              refine Ok.e (gR_at o67 rfl) ?_
              refine Ok.b (h66.ldE (j := 3) hke (by decide)) (fun _ _ => ?_)
              refine Ok.e (gR_at o67 rfl) ?_
              refine Ok.b (h66.ldE (j := 4) hke (by decide)) (fun _ _ => ?_)
              refine Ok.b (pX2_makeTime h66 ) (fun x5 h74 => ?_)
              have o75 := h74.oW
              refine Ok.e (gR_at o75 rfl) ?_
              refine Ok.b (pX2_addRow h74 (h74.strs ⟨by decide, by decide⟩) (rk9) (by omega)) (fun x8 h76 => ?_)
              exact Ok.s h76
        · unfold jX2_makeRows_98
          refine Ok.e (gR_at o63 rfl) ?_
          refine Ok.b (h62.ldE (j := 3) hke (by decide)) (fun _ _ => ?_)
          refine Ok.b (pX3_fits h62 ) (fun x3 h77 => ?_)
          refine Ok.i (fun c78 => ?_) (fun c78 => ?_)
          · unfold jX2_makeRows_123
            refine Ok.e (gR_at o63 rfl) ?_
            refine Ok.b (h62.ldE (j := 3) hke (by decide)) (fun _ _ => ?_)
            refine Ok.e (gR_at o63 rfl) ?_
            refine Ok.b (h62.ldE (j := 4) hke (by decide)) (fun _ _ => ?_)
            refine Ok.b (pX2_makeTime h62 ) (fun x5 h79 => ?_)
            have o80 := h79.oW
            refine Ok.e (gR_at o80 rfl) ?_
            refine Ok.b (pX2_addRow h79 (h79.strs ⟨by decide, by decide⟩) (rk9) (by omega)) (fun x8 h81 => ?_)
            exact Ok.s h81
          · refine Ok.e (gR_at o63 rfl) ?_
            refine Ok.b (h62.ldE (j := 4) hke (by decide)) (fun _ _ => ?_)
            refine Ok.i (fun c82 => ?_) (fun c82 => ?_)
            · exact Ok.s h62
            · unfold jX2_makeRows_123
              refine Ok.e (gR_at o63 rfl) ?_
              refine Ok.b (h62.ldE (j := 3) hke (by decide)) (fun _ _ => ?_)
              refine Ok.e (gR_at o63 rfl) ?_
              refine Ok.b (h62.ldE (j := 4) hke (by decide)) (fun _ _ => ?_)
              refine Ok.b (pX2_makeTime h62 ) (fun x5 h83 => ?_)
              have o84 := h83.oW
              refine Ok.e (gR_at o84 rfl) ?_
              refine Ok.b (pX2_addRow h83 (h83.strs ⟨by decide, by decide⟩) (rk9) (by omega)) (fun x8 h85 => ?_)
              exact Ok.s h85
      · unfold jX2_makeRows_72
        refine Ok.e (gR_at o59 rfl) ?_
        refine Ok.b (h58.ldE (j := 2) hke (by decide)) (fun _ _ => ?_)
        refine Ok.b (pX3_fits h58 ) (fun x3 h86 => ?_)
        refine Ok.i (fun c87 => ?_) (fun c87 => ?_)
        · refine Ok.e (gR_at o59 rfl) ?_
          refine Ok.b (h58.ldE (j := 2) hke (by decide)) (fun _ _ => ?_)
          refine Ok.b (pX2_addNumberRow h58 (h58.strs ⟨by decide, by decide⟩)) (fun x8 h88 => ?_)
          unfold jX2_makeRows_98
          have o89 := h88.oE' hke (by omega)
          refine Ok.e (gR_at o89 rfl) ?_
          refine Ok.b (h88.ldE (j := 3) hke (by decide)) (fun _ _ => ?_)
          refine Ok.b (pX3_fits h88 ) (fun x3 h90 => ?_)
          refine Ok.i (fun c91 => ?_) (fun c91 => ?_)
          · unfold jX2_makeRows_123
            refine Ok.e (gR_at o89 rfl) ?_
            refine Ok.b (h88.ldE (j := 3) hke (by decide)) (fun _ _ => ?_)
            refine Ok.e (gR_at o89 rfl) ?_
            refine Ok.b (h88.ldE (j := 4) hke (by decide)) (fun _ _ => ?_)
            refine Ok.b (pX2_makeTime h88 ) (fun x5 h92 => ?_)
            have o93 := h92.oW
            refine Ok.e (gR_at o93 rfl) ?_
            refine Ok.b (pX2_addRow h92 (h92.strs ⟨by decide, by decide⟩) (rk9) (by omega)) (fun x8 h94 => ?_)
            exact Ok.s h94
          · refine Ok.e (gR_at o89 rfl) ?_
            refine Ok.b (h88.ldE (j := 4) hke (by decide)) (fun _ _ => ?_)
            refine Ok.i (fun c95 => ?_) (fun c95 => ?_)
            · exact Ok.s h88
            · unfold jX2_makeRows_123
              refine Ok.e (gR_at o89 rfl) ?_
              refine Ok.b (h88.ldE (j := 3) hke (by decide)) (fun _ _ => ?_)
              refine Ok.e (gR_at o89 rfl) ?_
              refine Ok.b (h88.ldE (j := 4) hke (by decide)) (fun _ _ => ?_)
              refine Ok.b (pX2_makeTime h88 ) (fun x5 h96 => ?_)
              have o97 := h96.oW
              refine Ok.e (gR_at o97 rfl) ?_
              refine Ok.b (pX2_addRow h96 (h96.strs ⟨by decide, by decide⟩) (rk9) (by omega)) (fun x8 h98 => ?_)
              exact Ok.s h98
        · unfold jX2_makeRows_98
          refine Ok.e (gR_at o59 rfl) ?_
          refine Ok.b (h58.ldE (j := 3) hke (by decide)) (fun _ _ => ?_)
          refine Ok.b (pX3_fits h58 ) (fun x3 h99 => ?_)
          refine Ok.i (fun c100 => ?_) (fun c100 => ?_)
          · unfold jX2_makeRows_123
            refine Ok.e (gR_at o59 rfl) ?_
            refine Ok.b (h58.ldE (j := 3) hke (by decide)) (fun _ _ => ?_)
            refine Ok.e (gR_at o59 rfl) ?_
            refine Ok.b (h58.ldE (j := 4) hke (by decide)) (fun _ _ => ?_)
            refine Ok.b (pX2_makeTime h58 ) (fun x5 h101 => ?_)
            have o102 := h101.oW
            refine Ok.e (gR_at o102 rfl) ?_
            refine Ok.b (pX2_addRow h101 (h101.strs ⟨by decide, by decide⟩) (rk9) (by omega)) (fun x8 h103 => ?_)
            exact Ok.s h103
          · refine Ok.e (gR_at o59 rfl) ?_
            refine Ok.b (h58.ldE (j := 4) hke (by decide)) (fun _ _ => ?_)
            refine Ok.i (fun c104 => ?_) (fun c104 => ?_)
            · exact Ok.s h58
            · unfold jX2_makeRows_123
              refine Ok.e (gR_at o59 rfl) ?_
              refine Ok.b (h58.ldE (j := 3) hke (by decide)) (fun _ _ => ?_)
              refine Ok.e (gR_at o59 rfl) ?_
              refine Ok.b (h58.ldE (j := 4) hke (by decide)) (fun _ _ => ?_)
              refine Ok.b (pX2_makeTime h58 ) (fun x5 h105 => ?_)
              have o106 := h105.oW
              refine Ok.e (gR_at o106 rfl) ?_
              refine Ok.b (pX2_addRow h105 (h105.strs ⟨by decide, by decide⟩) (rk9) (by omega)) (fun x8 h107 => ?_)
              exact Ok.s h107
  · unfold jX2_makeRows_24
    have o108 := h2.oE' hke (by omega)
    refine Ok.e (gR_at o108 rfl) ?_
    refine Ok.b (h2.count (rkE3 hke)) (fun x2 hu109 => ?_)
    refine Ok.i (fun c110 => ?_) (fun c110 => ?_)
    · unfold jX2_makeRows_46
      refine Ok.e (gR_at o108 rfl) ?_
      refine Ok.b (h2.ldE (j := 1) hke (by decide)) (fun _ _ => ?_)
      refine Ok.b (pX3_fits h2 ) (fun x3 h111 => ?_)
      refine Ok.i (fun c112 => ?_) (fun c112 => ?_)
      · refine Ok.e (gR_at o108 rfl) ?_
        refine Ok.b (h2.ldE (j := 1) hke (by decide)) (fun _ _ => ?_)
        refine Ok.b (pX2_addNumberRow h2 (h2.strs ⟨by decide, by decide⟩)) (fun x8 h113 => ?_)
        unfold jX2_makeRows_72
        have o114 := h113.oE' hke (by omega)
        refine Ok.e (gR_at o114 rfl) ?_
        refine Ok.b (h113.ldE (j := 2) hke (by decide)) (fun _ _ => ?_)
        refine Ok.b (pX3_fits h113 ) (fun x3 h115 => ?_)
        refine Ok.i (fun c116 => ?_) (fun c116 => ?_)
        · refine Ok.e (gR_at o114 rfl) ?_
          refine Ok.b (h113.ldE (j := 2) hke (by decide)) (fun _ _ => ?_)
          refine Ok.b (pX2_addNumberRow h113 (h113.strs ⟨by decide, by decide⟩)) (fun x8 h117 => ?_)
          unfold jX2_makeRows_98
          have o118 := h117.oE' hke (by omega)
          refine Ok.e (gR_at o118 rfl) ?_
          refine Ok.b (h117.ldE (j := 3) hke (by decide)) (fun _ _ => ?_)
          refine Ok.b (pX3_fits h117 ) (fun x3 h119 => ?_)
          refine Ok.i (fun c120 => ?_) (fun c120 => ?_)
          · unfold jX2_makeRows_123
            refine Ok.e (gR_at o118 rfl) ?_
            refine Ok.b (h117.ldE (j := 3) hke (by decide)) (fun _ _ => ?_)
            refine Ok.e (gR_at o118 rfl) ?_
            refine Ok.b (h117.ldE (j := 4) hke (by decide)) (fun _ _ => ?_)
            refine Ok.b (pX2_makeTime h117 ) (fun x5 h121 => ?_)
            have o122 := h121.oW
            refine Ok.e (gR_at o122 rfl) ?_
            refine Ok.b (pX2_addRow h121 (h121.strs ⟨by decide, by decide⟩) (rk9) (by omega)) (fun x8 h123 => ?_)
            exact Ok.s h123
          · refine Ok.e (gR_at o118 rfl) ?_
            refine Ok.b (h117.ldE (j := 4) hke (by decide)) (fun _ _ => ?_)
            refine Ok.i (fun c124 => ?_) (fun c124 => ?_)
            · exact Ok.s h117
            · unfold jX2_makeRows_123
              refine Ok.e (gR_at o118 rfl) ?_
              refine Ok.b (h117.ldE (j := 3) hke (by decide)) (fun _ _ => ?_)
              refine Ok.e (gR_at o118 rfl) ?_
              refine Ok.b (h117.ldE (j := 4) hke (by decide)) (fun _ _ => ?_)
              refine Ok.b (pX2_makeTime h117 ) (fun x5 h125 => ?_)
              have o126 := h125.oW
              refine Ok.e (gR_at o126 rfl) ?_
              refine Ok.b (pX2_addRow h125 (h125.strs ⟨by decide, by decide⟩) (rk9) (by omega)) (fun x8 h127 => ?_)
              exact Ok.s h127
        · unfold jX2_makeRows_98
          refine Ok.e (gR_at o114 rfl) ?_
          refine Ok.b (h113.ldE (j := 3) hke (by decide)) (fun _ _ => ?_)
          refine Ok.b (pX3_fits h113 ) (fun x3 h128 => ?_)
          refine Ok.i (fun c129 => ?_) (fun c129 => ?_)
          · unfold jX2_makeRows_123
            refine Ok.e (gR_at o114 rfl) ?_
            refine Ok.b (h113.ldE (j := 3) hke (by decide)) (fun _ _ => ?_)
            refine Ok.e (gR_at o114 rfl) ?_
            refine Ok.b (h113.ldE (j := 4) hke (by decide)) (fun _ _ => ?_)
            refine Ok.b (pX2_makeTime h113 ) (fun x5 h130 => ?_)
            have o131 := h130.oW
            refine Ok.e (gR_at o131 rfl) ?_
            refine Ok.b (pX2_addRow h130 (h130.strs ⟨by decide, by decide⟩) (rk9) (by omega)) (fun x8 h132 => ?_)
            exact Ok.s h132
          · refine Ok.e (gR_at o114 rfl) ?_
            refine Ok.b (h113.ldE (j := 4) hke (by decide)) (fun _ _ => ?_)
            refine Ok.i (fun c133 => ?_) (fun c133 => ?_)
            · exact Ok.s h113
            · unfold jX2_makeRows_123
              refine Ok.e (gR_at o114 rfl) ?_
              refine Ok.b (h113.ldE (j := 3) hke (by decide)) (fun _ _ => ?_)
              refine Ok.e (gR_at o114 rfl) ?_
              refine Ok.b (h113.ldE (j := 4) hke (by decide)) (fun _ _ => ?_)
              refine Ok.b (pX2_makeTime h113 ) (fun x5 h134 => ?_)
              have o135 := h134.oW
              refine Ok.e (gR_at o135 rfl) ?_
              refine Ok.b (pX2_addRow h134 (h134.strs ⟨by decide, by decide⟩) (rk9) (by omega)) (fun x8 h136 => ?_)
              exact Ok.s h136
      · unfold jX2_makeRows_72
        refine Ok.e (gR_at o108 rfl) ?_
        refine Ok.b (h2.ldE (j := 2) hke (by decide)) (fun _ _ => ?_)
        refine Ok.b (pX3_fits h2 ) (fun x3 h137 => ?_)
        refine Ok.i (fun c138 => ?_) (fun c138 => ?_)
        · refine Ok.e (gR_at o108 rfl) ?_
          refine Ok.b (h2.ldE (j := 2) hke (by decide)) (fun _ _ => ?_)
          refine Ok.b (pX2_addNumberRow h2 (h2.strs ⟨by decide, by decide⟩)) (fun x8 h139 => ?_)
          unfold jX2_makeRows_98
          have o140 := h139.oE' hke (by omega)
          refine Ok.e (gR_at o140 rfl) ?_
          refine Ok.b (h139.ldE (j := 3) hke (by decide)) (fun _ _ => ?_)
          refine Ok.b (pX3_fits h139 ) (fun x3 h141 => ?_)
          refine Ok.i (fun c142 => ?_) (fun c142 => ?_)
          · unfold jX2_makeRows_123
            refine Ok.e (gR_at o140 rfl) ?_
            refine Ok.b (h139.ldE (j := 3) hke (by decide)) (fun _ _ => ?_)
            refine Ok.e (gR_at o140 rfl) ?_
            refine Ok.b (h139.ldE (j := 4) hke (by decide)) (fun _ _ => ?_)
            refine Ok.b (pX2_makeTime h139 ) (fun x5 h143 => ?_)
            have o144 := h143.oW
            refine Ok.e (gR_at o144 rfl) ?_
            refine Ok.b (pX2_addRow h143 (h143.strs ⟨by decide, by decide⟩) (rk9) (by omega)) (fun x8 h145 => ?_)
            exact Ok.s h145
          · refine Ok.e (gR_at o140 rfl) ?_
            refine Ok.b (h139.ldE (j := 4) hke (by decide)) (fun _ _ => ?_)
            refine Ok.i (fun c146 => ?_) (fun c146 => ?_)
            · exact Ok.s h139
            · unfold jX2_makeRows_123
              refine Ok.e (gR_at o140 rfl) ?_
              refine Ok.b (h139.ldE (j := 3) hke (by decide)) (fun _ _ => ?_)
              refine Ok.e (gR_at o140 rfl) ?_
              refine Ok.b (h139.ldE (j := 4) hke (by decide)) (fun _ _ => ?_)
              refine Ok.b (pX2_makeTime h139 ) (fun x5 h147 => ?_)
              have o148 := h147.oW
              refine Ok.e (gR_at o148 rfl) ?_
              refine Ok.b (pX2_addRow h147 (h147.strs ⟨by decide, by decide⟩) (rk9) (by omega)) (fun x8 h149 => ?_)
              exact Ok.s h149
        · unfold jX2_makeRows_98
          refine Ok.e (gR_at o108 rfl) ?_
          refine Ok.b (h2.ldE (j := 3) hke (by decide)) (fun _ _ => ?_)
          refine Ok.b (pX3_fits h2 ) (fun x3 h150 => ?_)
          refine Ok.i (fun c151 => ?_) (fun c151 => ?_)
          · unfold jX2_makeRows_123
            refine Ok.e (gR_at o108 rfl) ?_
            refine Ok.b (h2.ldE (j := 3) hke (by decide)) (fun _ _ => ?_)
            refine Ok.e (gR_at o108 rfl) ?_
            refine Ok.b (h2.ldE (j := 4) hke (by decide)) (fun _ _ => ?_)
            refine Ok.b (pX2_makeTime h2 ) (fun x5 h152 => ?_)
            have o153 := h152.oW
            refine Ok.e (gR_at o153 rfl) ?_
            refine Ok.b (pX2_addRow h152 (h152.strs ⟨by decide, by decide⟩) (rk9) (by omega)) (fun x8 h154 => ?_)
            exact Ok.s h154
          · refine Ok.e (gR_at o108 rfl) ?_
            refine Ok.b (h2.ldE (j := 4) hke (by decide)) (fun _ _ => ?_)
            refine Ok.i (fun c155 => ?_) (fun c155 => ?_)
            · exact Ok.s h2
            · unfold jX2_makeRows_123
              refine Ok.e (gR_at o108 rfl) ?_
              refine Ok.b (h2.ldE (j := 3) hke (by decide)) (fun _ _ => ?_)
              refine Ok.e (gR_at o108 rfl) ?_
              refine Ok.b (h2.ldE (j := 4) hke (by decide)) (fun _ _ => ?_)
              refine Ok.b (pX2_makeTime h2 ) (fun x5 h156 => ?_)
              have o157 := h156.oW
              refine Ok.e (gR_at o157 rfl) ?_
              refine Ok.b (pX2_addRow h156 (h156.strs ⟨by decide, by decide⟩) (rk9) (by omega)) (fun x8 h158 => ?_)
              exact Ok.s h158
    · refine Ok.e (gR_at o108 rfl) ?_
      refine Ok.b (pX2_addRow h2 (h2.strs ⟨by decide, by decide⟩) ((rkE3 hke)) (by omega)) (fun x6 h159 => ?_)
      unfold jX2_makeRows_46
      have o160 := h159.oE' hke (by omega)
      refine Ok.e (gR_at o160 rfl) ?_
      refine Ok.b (h159.ldE (j := 1) hke (by decide)) (fun _ _ => ?_)
      refine Ok.b (pX3_fits h159 ) (fun x3 h161 => ?_)
      refine Ok.i (fun c162 => ?_) (fun c162 => ?_)
      · refine Ok.e (gR_at o160 rfl) ?_
        refine Ok.b (h159.ldE (j := 1) hke (by decide)) (fun _ _ => ?_)
        refine Ok.b (pX2_addNumberRow h159 (h159.strs ⟨by decide, by decide⟩)) (fun x8 h163 => ?_)
        unfold jX2_makeRows_72
        have o164 := h163.oE' hke (by omega)
        refine Ok.e (gR_at o164 rfl) ?_
        refine Ok.b (h163.ldE (j := 2) hke (by decide)) (fun _ _ => ?_)
        refine Ok.b (pX3_fits h163 ) (fun x3 h165 => ?_)
        refine Ok.i (fun c166 => ?_) (fun c166 => ?_)
        · refine Ok.e (gR_at o164 rfl) ?_
          refine Ok.b (h163.ldE (j := 2) hke (by decide)) (fun _ _ => ?_)
          refine Ok.b (pX2_addNumberRow h163 (h163.strs ⟨by decide, by decide⟩)) (fun x8 h167 => ?_)
          unfold jX2_makeRows_98
          have o168 := h167.oE' hke (by omega)
          refine Ok.e (gR_at o168 rfl) ?_
          refine Ok.b (h167.ldE (j := 3) hke (by decide)) (fun _ _ => ?_)
          refine Ok.b (pX3_fits h167 ) (fun x3 h169 => ?_)
          refine Ok.i (fun c170 => ?_) (fun c170 => ?_)
          · unfold jX2_makeRows_123
            refine Ok.e (gR_at o168 rfl) ?_
            refine Ok.b (h167.ldE (j := 3) hke (by decide)) (fun _ _ => ?_)
            refine Ok.e (gR_at o168 rfl) ?_
            refine Ok.b (h167.ldE (j := 4) hke (by decide)) (fun _ _ => ?_)
            refine Ok.b (pX2_makeTime h167 ) (fun x5 h171 => ?_)
            have o172 := h171.oW
            refine Ok.e (gR_at o172 rfl) ?_
            refine Ok.b (pX2_addRow h171 (h171.strs ⟨by decide, by decide⟩) (rk9) (by omega)) (fun x8 h173 => ?_)
            exact Ok.s h173
          · refine Ok.e (gR_at o168 rfl) ?_
            refine Ok.b (h167.ldE (j := 4) hke (by decide)) (fun _ _ => ?_)
            refine Ok.i (fun c174 => ?_) (fun c174 => ?_)
            · exact Ok.s h167
            · unfold jX2_makeRows_123
              refine Ok.e (gR_at o168 rfl) ?_
              refine Ok.b (h167.ldE (j := 3) hke (by decide)) (fun _ _ => ?_)
              refine Ok.e (gR_at o168 rfl) ?_
              refine Ok.b (h167.ldE (j := 4) hke (by decide)) (fun _ _ => ?_)
              refine Ok.b (pX2_makeTime h167 ) (fun x5 h175 => ?_)
              have o176 := h175.oW
              refine Ok.e (gR_at o176 rfl) ?_
              refine Ok.b (pX2_addRow h175 (h175.strs ⟨by decide, by decide⟩) (rk9) (by omega)) (fun x8 h177 => ?_)
              exact Ok.s h177
        · unfold jX2_makeRows_98
          refine Ok.e (gR_at o164 rfl) ?_
          refine Ok.b (h163.ldE (j := 3) hke (by decide)) (fun _ _ => ?_)
          refine Ok.b (pX3_fits h163 ) (fun x3 h178 => ?_)
          refine Ok.i (fun c179 => ?_) (fun c179 => ?_)
          · unfold jX2_makeRows_123
            refine Ok.e (gR_at o164 rfl) ?_
            refine Ok.b (h163.ldE (j := 3) hke (by decide)) (fun _ _ => ?_)
            refine Ok.e (gR_at o164 rfl) ?_
            refine Ok.b (h163.ldE (j := 4) hke (by decide)) (fun _ _ => ?_)
            refine Ok.b (pX2_makeTime h163 ) (fun x5 h180 => ?_)
            have o181 := h180.oW
            refine Ok.e (gR_at o181 rfl) ?_
            refine Ok.b (pX2_addRow h180 (h180.strs ⟨by decide, by decide⟩) (rk9) (by omega)) (fun x8 h182 => ?_)
            exact Ok.s h182
          · refine Ok.e (gR_at o164 rfl) ?_
            refine Ok.b (h163.ldE (j := 4) hke (by decide)) (fun _ _ => ?_)
            refine Ok.i (fun c183 => ?_) (fun c183 => ?_)
            · exact Ok.s h163
            · unfold jX2_makeRows_123
              refine Ok.e (gR_at o164 rfl) ?_
              refine Ok.b (h163.ldE (j := 3) hke (by decide)) (fun _ _ => ?_)
              refine Ok.e (gR_at o164 rfl) ?_
              refine Ok.b (h163.ldE (j := 4) hke (by decide)) (fun _ _ => ?_)
              refine Ok.b (pX2_makeTime h163 ) (fun x5 h184 => ?_)
              have o185 := h184.oW
              refine Ok.e (gR_at o185 rfl) ?_
              refine Ok.b (pX2_addRow h184 (h184.strs ⟨by decide, by decide⟩) (rk9) (by omega)) (fun x8 h186 => ?_)
              exact Ok.s h186
      · unfold jX2_makeRows_72
        refine Ok.e (gR_at o160 rfl) ?_
        refine Ok.b (h159.ldE (j := 2) hke (by decide)) (fun _ _ => ?_)
        refine Ok.b (pX3_fits h159 ) (fun x3 h187 => ?_)
        refine Ok.i (fun c188 => ?_) (fun c188 => ?_)
        · refine Ok.e (gR_at o160 rfl) ?_
          refine Ok.b (h159.ldE (j := 2) hke (by decide)) (fun _ _ => ?_)
          refine Ok.b (pX2_addNumberRow h159 (h159.strs ⟨by decide, by decide⟩)) (fun x8 h189 => ?_)
          unfold jX2_makeRows_98
          have o190 := h189.oE' hke (by omega)
          refine Ok.e (gR_at o190 rfl) ?_
          refine Ok.b (h189.ldE (j := 3) hke (by decide)) (fun _ _ => ?_)
          refine Ok.b (pX3_fits h189 ) (fun x3 h191 => ?_)
          refine Ok.i (fun c192 => ?_) (fun c192 => ?_)
          · unfold jX2_makeRows_123
            refine Ok.e (gR_at o190 rfl) ?_
            refine Ok.b (h189.ldE (j := 3) hke (by decide)) (fun _ _ => ?_)
            refine Ok.e (gR_at o190 rfl) ?_
            refine Ok.b (h189.ldE (j := 4) hke (by decide)) (fun _ _ => ?_)
            refine Ok.b (pX2_makeTime h189 ) (fun x5 h193 => ?_)
            have o194 := h193.oW
            refine Ok.e (gR_at o194 rfl) ?_
            refine Ok.b (pX2_addRow h193 (h193.strs ⟨by decide, by decide⟩) (rk9) (by omega)) (fun x8 h195 => ?_)
            exact Ok.s h195
          · refine Ok.e (gR_at o190 rfl) ?_
            refine Ok.b (h189.ldE (j := 4) hke (by decide)) (fun _ _ => ?_)
            refine Ok.i (fun c196 => ?_) (fun c196 => ?_)
            · exact Ok.s h189
            · unfold jX2_makeRows_123
              refine Ok.e (gR_at o190 rfl) ?_
              refine Ok.b (h189.ldE (j := 3) hke (by decide)) (fun _ _ => ?_)
              refine Ok.e (gR_at o190 rfl) ?_
              refine Ok.b (h189.ldE (j := 4) hke (by decide)) (fun _ _ => ?_)
              refine Ok.b (pX2_makeTime h189 ) (fun x5 h197 => ?_)
              have o198 := h197.oW
              refine Ok.e (gR_at o198 rfl) ?_
              refine Ok.b (pX2_addRow h197 (h197.strs ⟨by decide, by decide⟩) (rk9) (by omega)) (fun x8 h199 => ?_)
              exact Ok.s h199
        · unfold jX2_makeRows_98
          refine Ok.e (gR_at o160 rfl) ?_
          refine Ok.b (h159.ldE (j := 3) hke (by decide)) (fun _ _ => ?_)
          refine Ok.b (pX3_fits h159 ) (fun x3 h200 => ?_)
          refine Ok.i (fun c201 => ?_) (fun c201 => ?_)
          · unfold jX2_makeRows_123
            refine Ok.e (gR_at o160 rfl) ?_
            refine Ok.b (h159.ldE (j := 3) hke (by decide)) (fun _ _ => ?_)
            refine Ok.e (gR_at o160 rfl) ?_
            refine Ok.b (h159.ldE (j := 4) hke (by decide)) (fun _ _ => ?_)
            refine Ok.b (pX2_makeTime h159 ) (fun x5 h202 => ?_)
            have o203 := h202.oW
            refine Ok.e (gR_at o203 rfl) ?_
            refine Ok.b (pX2_addRow h202 (h202.strs ⟨by decide, by decide⟩) (rk9) (by omega)) (fun x8 h204 => ?_)
            exact Ok.s h204
          · refine Ok.e (gR_at o160 rfl) ?_
            refine Ok.b (h159.ldE (j := 4) hke (by decide)) (fun _ _ => ?_)
            refine Ok.i (fun c205 => ?_) (fun c205 => ?_)
            · exact Ok.s h159
            · unfold jX2_makeRows_123
              refine Ok.e (gR_at o160 rfl) ?_
              refine Ok.b (h159.ldE (j := 3) hke (by decide)) (fun _ _ => ?_)
              refine Ok.e (gR_at o160 rfl) ?_
              refine Ok.b (h159.ldE (j := 4) hke (by decide)) (fun _ _ => ?_)
              refine Ok.b (pX2_makeTime h159 ) (fun x5 h206 => ?_)
              have o207 := h206.oW
              refine Ok.e (gR_at o207 rfl) ?_
              refine Ok.b (pX2_addRow h206 (h206.strs ⟨by decide, by decide⟩) (rk9) (by omega)) (fun x8 h208 => ?_)
              exact Ok.s h208
