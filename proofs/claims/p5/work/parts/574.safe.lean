/-! PURE: each method of the class answers, and keeps the shape of its cells (written by sgen.py) -/
theorem qX1_run_35 {v : Nat → Nat} {G0 G : gH} {b : Nat} {O : Nat → Nat → Int32} {P : Nat → Nat → Int64} (h0 : Rch v G0 b O P 11 266 G)  : ∀ (n : Nat) (y1 : Int32) (y2 : Int32) (y3 : Int32), gap y3 65 < n → Ok (fun r => Rch v G0 b O P 11 266 r.2) (lX1_run_35 v n G (b + 11) y1 y2 y3) := by
  have lp : ∀ (n : Nat) (G : gH) (y1 : Int32) (y2 : Int32) (y3 : Int32), Rch v G0 b O P 11 266 G → gap y3 65 < n → Ok (fun r => Rch v G0 b O P 11 266 r.2) (lX1_run_35 v n G (b + 11) y1 y2 y3) := by
    intro n
    induction n with
    | zero => intro G y1 y2 y3 _ h; exact absurd h (Nat.not_lt_zero _)
    | succ n ih =>
      intro G y1 y2 y3 h0 hm
      show Ok _ (bX1_run_35 v (lX1_run_35 v n) G (b + 11) y1 y2 y3)
      unfold bX1_run_35
      refine Ok.i (fun c1 => ?_) (fun c1 => ?_)
      · obtain ⟨_, _, o2⟩ := h0.oD
        refine Ok.e (gI_at o2 rfl) ?_
        exact Ok.s h0
      · refine Ok.i (fun c3 => ?_) (fun c3 => ?_)
        · obtain ⟨_, _, o4⟩ := h0.oD
          refine Ok.e (gI_at o4 rfl) ?_
          exact Ok.s h0
        · obtain ⟨_, _, o5⟩ := h0.oD
          refine Ok.e (gR_at o5 rfl) ?_
          refine Ok.b (h0.count rk3) (fun x6 hu6 => ?_)
          refine Ok.e rfl ?_
          refine Ok.i (fun c7 => ?_) (fun c7 => ?_)
          · refine Ok.e (gR_at o5 rfl) ?_
            refine Ok.e (gR_at o5 rfl) ?_
            refine Ok.b (pX0_tellsSomething h0 (hA13)) (fun x23 h8 => ?_)
            refine Ok.i (fun c9 => ?_) (fun c9 => ?_)
            · unfold jX1_run_81
              refine Ok.b (pX4_end h0 ) (fun x1 h10 => ?_)
              unfold jX1_run_134
              refine Ok.e rfl ?_
              exact ih _ _ _ _ h10  (gap_up' (lt65 (by assumption)) hm)
            · unfold jX1_run_81
              refine Ok.b (pX4_end h0 ) (fun x1 h11 => ?_)
              unfold jX1_run_134
              refine Ok.e rfl ?_
              exact ih _ _ _ _ h11  (gap_up' (lt65 (by assumption)) hm)
          · refine Ok.i (fun c12 => ?_) (fun c12 => ?_)
            · refine Ok.b (pX1_isBlank h0 ) (fun x11 h13 => ?_)
              refine Ok.i (fun c14 => ?_) (fun c14 => ?_)
              · refine Ok.b (pX1_passHead h0 ) (fun x14 h15 => ?_)
                unfold jX1_run_134
                refine Ok.e rfl ?_
                exact ih _ _ _ _ h15  (gap_up' (lt65 (by assumption)) hm)
              · refine Ok.b (pX1_passEnd h0 ) (fun x16 h16 => ?_)
                unfold jX1_run_134
                refine Ok.e rfl ?_
                exact ih _ _ _ _ h16  (gap_up' (lt65 (by assumption)) hm)
            · refine Ok.e (gR_at o5 rfl) ?_
              refine Ok.b (pX4_end h0 ) (fun x19 h17 => ?_)
              unfold jX1_run_134
              refine Ok.e rfl ?_
              exact ih _ _ _ _ h17  (gap_up' (lt65 (by assumption)) hm)
  intro n y1 y2 y3 hm
  exact lp n G y1 y2 y3 h0 hm
theorem pX1_run {v : Nat → Nat} {G0 G : gH} {b : Nat} {O : Nat → Nat → Int32} {P : Nat → Nat → Int64} {a1 : Int32} (h0 : Rch v G0 b O P 11 266 G) : Ok (fun r => Rch v G0 b O P 11 266 r.2) (fX1_run v G (b + 11) a1) := by
  unfold fX1_run
  obtain ⟨_, _, o1⟩ := h0.oD
  refine Ok.e (gOb_at o1) ?_
  refine Ok.e (gR_at o1 rfl) ?_
  refine Ok.b (pX4_forget h0 ) (fun x2 h2 => ?_)
  obtain ⟨_, _, o3⟩ := h2.oD
  refine Ok.e (gR_at o3 rfl) ?_
  refine Ok.b (pX0_forget h2 (hA13)) (fun x5 h4 => ?_)
  obtain ⟨_, _, o5⟩ := h4.oD
  refine Ok.e (gR_at o5 rfl) ?_
  refine Ok.b (pX0_forget h4 (hA18)) (fun x8 h6 => ?_)
  refine Ok.b (h6.pi tm_D7 (by omega)) (fun G10 h7 => ?_)
  refine Ok.b (h7.pi tm_D8 (by omega)) (fun G11 h8 => ?_)
  exact qX1_run_35 h8  gFu _ _ _ (gap_fu _ _)
theorem qX3_split_18 {v : Nat → Nat} {G0 G : gH} {b : Nat} {O : Nat → Nat → Int32} {P : Nat → Nat → Int64} {lo hi : Nat} (h0 : Rch v G0 b O P lo hi G) {ke : Nat} (hke : ekB ke = true)  : ∀ (n : Nat) (y1 : Int32) (y2 : Int32), dist y2 < n → Ok (fun _ => True) (lX3_split_18 v G n (b + ke) y1 y2) := by
  have ze := ekB_iff.mp hke
  intro n
  induction n with
  | zero => intro y1 y2 h; exact absurd h (Nat.not_lt_zero _)
  | succ n ih =>
    intro y1 y2 hm
    show Ok _ (bX3_split_18 v G (lX3_split_18 v G n) (b + ke) y1 y2)
    unfold bX3_split_18
    refine Ok.i (fun c1 => ?_) (fun c1 => ?_)
    · exact Ok.s trivial
    · refine Ok.i (fun c2 => ?_) (fun c2 => ?_)
      · exact Ok.s trivial
      · obtain ⟨_, _, _, o3⟩ := h0.oE hke
        refine Ok.e (gR_at o3 rfl) ?_
        refine Ok.b (h0.at_ (rkE1 hke)) (fun x4 _ => ?_)
        refine Ok.i (fun c4 => ?_) (fun c4 => ?_)
        · exact Ok.s trivial
        · refine Ok.e rfl ?_
          exact ih _ _   (dist_dn (n2 (by assumption)) hm)
theorem pX3_split {v : Nat → Nat} {G0 G : gH} {b : Nat} {O : Nat → Nat → Int32} {P : Nat → Nat → Int64} {lo hi : Nat}  (h0 : Rch v G0 b O P lo hi G) {ke : Nat} (hke : ekB ke = true) : Ok (fun _ => True) (fX3_split v G (b + ke)) := by
  have ze := ekB_iff.mp hke
  unfold fX3_split
  obtain ⟨_, _, _, o1⟩ := h0.oE hke
  refine Ok.e (gOb_at o1) ?_
  refine Ok.e (gR_at o1 rfl) ?_
  refine Ok.b (h0.count (rkE1 hke)) (fun x2 hu2 => ?_)
  refine Ok.e rfl ?_
  exact qX3_split_18 h0 (hke) gFu _ _ (dist_fu _)
theorem pX3_isNameInFields {v : Nat → Nat} {G0 G : gH} {b : Nat} {O : Nat → Nat → Int32} {P : Nat → Nat → Int64} {lo hi : Nat}  (h0 : Rch v G0 b O P lo hi G) {ke : Nat} (hke : ekB ke = true) : Ok (fun x => x = 0 ∨ x = 1) (fX3_isNameInFields v G (b + ke)) := by
  have ze := ekB_iff.mp hke
  unfold fX3_isNameInFields
  obtain ⟨_, _, _, o1⟩ := h0.oE hke
  refine Ok.e (gOb_at o1) ?_
  refine Ok.e (gR_at o1 rfl) ?_
  refine Ok.b (h0.count (rkE1 hke)) (fun x2 hu2 => ?_)
  refine Ok.i (fun c3 => ?_) (fun c3 => ?_)
  · unfold jX3_isNameInFields_19
    refine Ok.e gZ_1 ?_
    exact Ok.s (by first | exact Or.inl rfl | exact Or.inr rfl | assumption | exact And.left (by assumption))
  · refine Ok.b (pX3_split h0 (hke)) (fun x5 h4 => ?_)
    refine Ok.i (fun c5 => ?_) (fun c5 => ?_)
    · refine Ok.e gZ_0 ?_
      exact Ok.s (by first | exact Or.inl rfl | exact Or.inr rfl | assumption | exact And.left (by assumption))
    · unfold jX3_isNameInFields_19
      refine Ok.e gZ_1 ?_
      exact Ok.s (by first | exact Or.inl rfl | exact Or.inr rfl | assumption | exact And.left (by assumption))
theorem pX2_addRow {v : Nat → Nat} {G0 G : gH} {b : Nat} {O : Nat → Nat → Int32} {P : Nat → Nat → Int64}  (h0 : Rch v G0 b O P 3 11 G) {a1 : Nat} (hs : StrLo b G0 a1) {kr : Nat} (hkr : rkB kr = true) (hne : kr ≠ 3 ∧ kr ≠ 7) : Ok (Rch v G0 b O P 3 11) (fX2_addRow v G (b + 6) a1 (b + kr)) := by
  have hrlkr := rkB_lt hkr
  unfold fX2_addRow
  have o1 := h0.oW
  refine Ok.e (gOb_at o1) ?_
  obtain ⟨_, sl2⟩ := (h0.str hs).st
  refine Ok.e (str_len sl2) ?_
  refine Ok.b (h0.count hkr) (fun x3 hu3 => ?_)
  refine Ok.e rfl ?_
  refine Ok.b (t_decimalWidth _) (fun _ _ => ?_)
  refine Ok.e rfl ?_
  refine Ok.e (gR_at o1 rfl) ?_
  refine Ok.b (t_decimalWidth _) (fun _ _ => ?_)
  refine Ok.b (h0.rop rk7 (by omega) (s_addDecimal (h0.rs rk7) _)) (fun x12 h4 => ?_)
  have o5 := h4.oW
  refine Ok.e (gR_at o5 rfl) ?_
  refine Ok.b (h4.rop rk7 (by omega) (s_add (h4.rs rk7) _)) (fun x15 h6 => ?_)
  have o7 := h6.oW
  refine Ok.e (gR_at o7 rfl) ?_
  refine Ok.b (h6.rop rk7 (by omega) (s_addText (h6.rs rk7) (h6.str hs) (by omega))) (fun x18 h8 => ?_)
  have o9 := h8.oW
  refine Ok.e (gR_at o9 rfl) ?_
  refine Ok.b (h8.rop rk7 (by omega) (s_add (h8.rs rk7) _)) (fun x21 h10 => ?_)
  have o11 := h10.oW
  refine Ok.e (gR_at o11 rfl) ?_
  refine Ok.b (h10.count hkr) (fun x24 hu12 => ?_)
  refine Ok.b (h10.rop rk7 (by omega) (s_addPart (h10.rs rk7) (h10.rs hkr) (by omega) _ _)) (fun x26 h13 => ?_)
  have o14 := h13.oW
  refine Ok.e (gR_at o14 rfl) ?_
  refine Ok.b (h13.rop rk7 (by omega) (s_add (h13.rs rk7) _)) (fun x29 h15 => ?_)
  exact Ok.s h15
theorem pX3_fits {v : Nat → Nat} {G0 G : gH} {b : Nat} {O : Nat → Nat → Int32} {P : Nat → Nat → Int64} {lo hi : Nat} {a0 : Int64} {a1 : Int32} (h0 : Rch v G0 b O P lo hi G) : Ok (fun x => x = 0 ∨ x = 1) (fX3_fits v G a0 a1) := by
  unfold fX3_fits
  refine Ok.i (fun c1 => ?_) (fun c1 => ?_)
  · refine Ok.e gZ_0 ?_
    exact Ok.s (by first | exact Or.inl rfl | exact Or.inr rfl | assumption | exact And.left (by assumption))
  · refine Ok.i (fun c2 => ?_) (fun c2 => ?_)
    · refine Ok.e gZ_0 ?_
      exact Ok.s (by first | exact Or.inl rfl | exact Or.inr rfl | assumption | exact And.left (by assumption))
    · refine Ok.e gZ_1 ?_
      exact Ok.s (by first | exact Or.inl rfl | exact Or.inr rfl | assumption | exact And.left (by assumption))
theorem pX3_isFitting {v : Nat → Nat} {G0 G : gH} {b : Nat} {O : Nat → Nat → Int32} {P : Nat → Nat → Int64} {lo hi : Nat} {a2 : Int32} (h0 : Rch v G0 b O P lo hi G) {ke : Nat} (hke : ekB ke = true) {j : Nat} (hj : j < 5) : Ok (fun x => x = 0 ∨ x = 1) (fX3_isFitting v G (b + ke) (nI j) a2) := by
  have ze := ekB_iff.mp hke
  unfold fX3_isFitting
  obtain ⟨_, _, _, o1⟩ := h0.oE hke
  refine Ok.e (gOb_at o1) ?_
  refine Ok.e (gR_at o1 rfl) ?_
  refine Ok.b (h0.ldE hke hj) (fun _ _ => ?_)
  refine Ok.b (pX3_fits h0 ) (fun x3 h2 => ?_)
  refine Ok.e (gZ_ok (by first | assumption | exact And.left (by assumption))) ?_
  exact Ok.s (by first | exact Or.inl rfl | exact Or.inr rfl | assumption | exact And.left (by assumption))
theorem pX2_addNumberRow {v : Nat → Nat} {G0 G : gH} {b : Nat} {O : Nat → Nat → Int32} {P : Nat → Nat → Int64} {a2 : Int64} (h0 : Rch v G0 b O P 3 11 G) {a1 : Nat} (hs : StrLo b G0 a1) : Ok (Rch v G0 b O P 3 11) (fX2_addNumberRow v G (b + 6) a1 a2) := by
  unfold fX2_addNumberRow
  have o1 := h0.oW
  refine Ok.e (gOb_at o1) ?_
  refine Ok.e (gR_at o1 rfl) ?_
  refine Ok.b (h0.rop rk9 (by omega) (s_empty (h0.rs rk9))) (fun x2 h2 => ?_)
  have o3 := h2.oW
  refine Ok.e (gR_at o3 rfl) ?_
  refine Ok.b (h2.rop rk9 (by omega) (s_addDecimal (h2.rs rk9) _)) (fun x5 h4 => ?_)
  have o5 := h4.oW
  refine Ok.e (gR_at o5 rfl) ?_
  refine Ok.b (pX2_addRow h4 (hs) (rk9) (by omega)) (fun x8 h6 => ?_)
  exact Ok.s h6
theorem qX2_addFraction_18 {v : Nat → Nat} {G0 G : gH} {b : Nat} {O : Nat → Nat → Int32} {P : Nat → Nat → Int64} (h0 : Rch v G0 b O P 3 11 G)  : ∀ (n : Nat) (y2 : Int32) (y3 : Int32), y3.toInt.toNat < n → Ok (Rch v G0 b O P 3 11) (lX2_addFraction_18 v n G (b + 6) y2 y3) := by
  have lp : ∀ (n : Nat) (G : gH) (y2 : Int32) (y3 : Int32), Rch v G0 b O P 3 11 G → y3.toInt.toNat < n → Ok (Rch v G0 b O P 3 11) (lX2_addFraction_18 v n G (b + 6) y2 y3) := by
    intro n
    induction n with
    | zero => intro G y2 y3 _ h; exact absurd h (Nat.not_lt_zero _)
    | succ n ih =>
      intro G y2 y3 h0 hm
      show Ok _ (bX2_addFraction_18 v (lX2_addFraction_18 v n) G (b + 6) y2 y3)
      unfold bX2_addFraction_18
      refine Ok.i (fun c1 => ?_) (fun c1 => ?_)
      · exact Ok.s h0
      · refine Ok.i (fun c2 => ?_) (fun c2 => ?_)
        · exact Ok.s h0
        · have o3 := h0.oW
          refine Ok.e (gR_at o3 rfl) ?_
          refine Ok.i (fun c4 => ?_) (fun c4 => ?_)
          · exact absurd c4 (i32_pos (by assumption))
          · refine Ok.b (h0.rop rk9 (by omega) (s_add (h0.rs rk9) _)) (fun x5 h5 => ?_)
            refine Ok.i (fun c6 => ?_) (fun c6 => ?_)
            · exact absurd c6 (i32_pos (by assumption))
            · refine Ok.e rfl ?_
              refine Ok.e rfl ?_
              exact ih _ _ _ h5  (div10 (by assumption) hm)
  intro n y2 y3 hm
  exact lp n G y2 y3 h0 hm
theorem pX2_addFraction {v : Nat → Nat} {G0 G : gH} {b : Nat} {O : Nat → Nat → Int32} {P : Nat → Nat → Int64} {a1 : Int32} (h0 : Rch v G0 b O P 3 11 G) : Ok (Rch v G0 b O P 3 11) (fX2_addFraction v G (b + 6) a1) := by
  unfold fX2_addFraction
  have o1 := h0.oW
  refine Ok.e (gOb_at o1) ?_
  refine Ok.i (fun c2 => ?_) (fun c2 => ?_)
  · unfold jX2_addFraction_13
    exact qX2_addFraction_18 h0  gFu _ _ (tn_fu _)
  · refine Ok.e (gR_at o1 rfl) ?_
    refine Ok.b (h0.rop rk9 (by omega) (s_add (h0.rs rk9) _)) (fun x3 h3 => ?_)
    unfold jX2_addFraction_13
    exact qX2_addFraction_18 h3  gFu _ _ (tn_fu _)
theorem pX2_makeTime {v : Nat → Nat} {G0 G : gH} {b : Nat} {O : Nat → Nat → Int32} {P : Nat → Nat → Int64} {a1 : Int64} {a2 : Int32} (h0 : Rch v G0 b O P 3 11 G) : Ok (Rch v G0 b O P 3 11) (fX2_makeTime v G (b + 6) a1 a2) := by
  unfold fX2_makeTime
  have o1 := h0.oW
  refine Ok.e (gOb_at o1) ?_
  refine Ok.i (fun c2 => ?_) (fun c2 => ?_)
  · unfold jX2_makeTime_11
    refine Ok.i (fun c3 => ?_) (fun c3 => ?_)
    · unfold jX2_makeTime_26
      unfold jX2_makeTime_27
      refine Ok.i (fun c4 => ?_) (fun c4 => ?_)
      · refine Ok.e rfl ?_
        unfold jX2_makeTime_45
        refine Ok.e (gR_at o1 rfl) ?_
        refine Ok.b (h0.rop rk9 (by omega) (s_empty (h0.rs rk9))) (fun x2 h5 => ?_)
        refine Ok.i (fun c6 => ?_) (fun c6 => ?_)
        · unfold jX2_makeTime_68
          have o7 := h5.oW
          refine Ok.e (gR_at o7 rfl) ?_
          refine Ok.b (h5.rop rk9 (by omega) (s_addDecimal (h5.rs rk9) _)) (fun x2 h8 => ?_)
          refine Ok.i (fun c9 => ?_) (fun c9 => ?_)
          · unfold jX2_makeTime_91
            refine Ok.b (pX2_addFraction h8 ) (fun x1 h10 => ?_)
            exact Ok.s h10
          · unfold jX2_makeTime_91
            refine Ok.b (pX2_addFraction h8 ) (fun x1 h11 => ?_)
            exact Ok.s h11
        · have o12 := h5.oW
          refine Ok.e (gR_at o12 rfl) ?_
          refine Ok.b (h5.rop rk9 (by omega) (s_add (h5.rs rk9) _)) (fun x6 h13 => ?_)
          unfold jX2_makeTime_68
          have o14 := h13.oW
          refine Ok.e (gR_at o14 rfl) ?_
          refine Ok.b (h13.rop rk9 (by omega) (s_addDecimal (h13.rs rk9) _)) (fun x2 h15 => ?_)
          refine Ok.i (fun c16 => ?_) (fun c16 => ?_)
          · unfold jX2_makeTime_91
            refine Ok.b (pX2_addFraction h15 ) (fun x1 h17 => ?_)
            exact Ok.s h17
          · unfold jX2_makeTime_91
            refine Ok.b (pX2_addFraction h15 ) (fun x1 h18 => ?_)
            exact Ok.s h18
      · unfold jX2_makeTime_45
        refine Ok.e (gR_at o1 rfl) ?_
        refine Ok.b (h0.rop rk9 (by omega) (s_empty (h0.rs rk9))) (fun x2 h19 => ?_)
        refine Ok.i (fun c20 => ?_) (fun c20 => ?_)
        · unfold jX2_makeTime_68
          have o21 := h19.oW
          refine Ok.e (gR_at o21 rfl) ?_
          refine Ok.b (h19.rop rk9 (by omega) (s_addDecimal (h19.rs rk9) _)) (fun x2 h22 => ?_)
          refine Ok.i (fun c23 => ?_) (fun c23 => ?_)
          · unfold jX2_makeTime_91
            refine Ok.b (pX2_addFraction h22 ) (fun x1 h24 => ?_)
            exact Ok.s h24
          · unfold jX2_makeTime_91
            refine Ok.b (pX2_addFraction h22 ) (fun x1 h25 => ?_)
            exact Ok.s h25
        · have o26 := h19.oW
          refine Ok.e (gR_at o26 rfl) ?_
          refine Ok.b (h19.rop rk9 (by omega) (s_add (h19.rs rk9) _)) (fun x6 h27 => ?_)
          unfold jX2_makeTime_68
          have o28 := h27.oW
          refine Ok.e (gR_at o28 rfl) ?_
          refine Ok.b (h27.rop rk9 (by omega) (s_addDecimal (h27.rs rk9) _)) (fun x2 h29 => ?_)
          refine Ok.i (fun c30 => ?_) (fun c30 => ?_)
          · unfold jX2_makeTime_91
            refine Ok.b (pX2_addFraction h29 ) (fun x1 h31 => ?_)
            exact Ok.s h31
          · unfold jX2_makeTime_91
            refine Ok.b (pX2_addFraction h29 ) (fun x1 h32 => ?_)
            exact Ok.s h32
    · refine Ok.i (fun c33 => ?_) (fun c33 => ?_)
      · unfold jX2_makeTime_26
        unfold jX2_makeTime_27
        refine Ok.i (fun c34 => ?_) (fun c34 => ?_)
        · refine Ok.e rfl ?_
          unfold jX2_makeTime_45
          refine Ok.e (gR_at o1 rfl) ?_
          refine Ok.b (h0.rop rk9 (by omega) (s_empty (h0.rs rk9))) (fun x2 h35 => ?_)
          refine Ok.i (fun c36 => ?_) (fun c36 => ?_)
          · unfold jX2_makeTime_68
            have o37 := h35.oW
            refine Ok.e (gR_at o37 rfl) ?_
            refine Ok.b (h35.rop rk9 (by omega) (s_addDecimal (h35.rs rk9) _)) (fun x2 h38 => ?_)
            refine Ok.i (fun c39 => ?_) (fun c39 => ?_)
            · unfold jX2_makeTime_91
              refine Ok.b (pX2_addFraction h38 ) (fun x1 h40 => ?_)
              exact Ok.s h40
            · unfold jX2_makeTime_91
              refine Ok.b (pX2_addFraction h38 ) (fun x1 h41 => ?_)
              exact Ok.s h41
          · have o42 := h35.oW
            refine Ok.e (gR_at o42 rfl) ?_
            refine Ok.b (h35.rop rk9 (by omega) (s_add (h35.rs rk9) _)) (fun x6 h43 => ?_)
            unfold jX2_makeTime_68
            have o44 := h43.oW
            refine Ok.e (gR_at o44 rfl) ?_
            refine Ok.b (h43.rop rk9 (by omega) (s_addDecimal (h43.rs rk9) _)) (fun x2 h45 => ?_)
            refine Ok.i (fun c46 => ?_) (fun c46 => ?_)
            · unfold jX2_makeTime_91
              refine Ok.b (pX2_addFraction h45 ) (fun x1 h47 => ?_)
              exact Ok.s h47
            · unfold jX2_makeTime_91
              refine Ok.b (pX2_addFraction h45 ) (fun x1 h48 => ?_)
              exact Ok.s h48
        · unfold jX2_makeTime_45
          refine Ok.e (gR_at o1 rfl) ?_
          refine Ok.b (h0.rop rk9 (by omega) (s_empty (h0.rs rk9))) (fun x2 h49 => ?_)
          refine Ok.i (fun c50 => ?_) (fun c50 => ?_)
          · unfold jX2_makeTime_68
            have o51 := h49.oW
            refine Ok.e (gR_at o51 rfl) ?_
            refine Ok.b (h49.rop rk9 (by omega) (s_addDecimal (h49.rs rk9) _)) (fun x2 h52 => ?_)
            refine Ok.i (fun c53 => ?_) (fun c53 => ?_)
            · unfold jX2_makeTime_91
              refine Ok.b (pX2_addFraction h52 ) (fun x1 h54 => ?_)
              exact Ok.s h54
            · unfold jX2_makeTime_91
              refine Ok.b (pX2_addFraction h52 ) (fun x1 h55 => ?_)
              exact Ok.s h55
          · have o56 := h49.oW
            refine Ok.e (gR_at o56 rfl) ?_
            refine Ok.b (h49.rop rk9 (by omega) (s_add (h49.rs rk9) _)) (fun x6 h57 => ?_)
            unfold jX2_makeTime_68
            have o58 := h57.oW
            refine Ok.e (gR_at o58 rfl) ?_
            refine Ok.b (h57.rop rk9 (by omega) (s_addDecimal (h57.rs rk9) _)) (fun x2 h59 => ?_)
            refine Ok.i (fun c60 => ?_) (fun c60 => ?_)
            · unfold jX2_makeTime_91
              refine Ok.b (pX2_addFraction h59 ) (fun x1 h61 => ?_)
              exact Ok.s h61
            · unfold jX2_makeTime_91
              refine Ok.b (pX2_addFraction h59 ) (fun x1 h62 => ?_)
              exact Ok.s h62
      · unfold jX2_makeTime_27
        refine Ok.i (fun c63 => ?_) (fun c63 => ?_)
        · refine Ok.e rfl ?_
          unfold jX2_makeTime_45
          refine Ok.e (gR_at o1 rfl) ?_
          refine Ok.b (h0.rop rk9 (by omega) (s_empty (h0.rs rk9))) (fun x2 h64 => ?_)
          refine Ok.i (fun c65 => ?_) (fun c65 => ?_)
          · unfold jX2_makeTime_68
            have o66 := h64.oW
            refine Ok.e (gR_at o66 rfl) ?_
            refine Ok.b (h64.rop rk9 (by omega) (s_addDecimal (h64.rs rk9) _)) (fun x2 h67 => ?_)
            refine Ok.i (fun c68 => ?_) (fun c68 => ?_)
            · unfold jX2_makeTime_91
              refine Ok.b (pX2_addFraction h67 ) (fun x1 h69 => ?_)
              exact Ok.s h69
            · unfold jX2_makeTime_91
              refine Ok.b (pX2_addFraction h67 ) (fun x1 h70 => ?_)
              exact Ok.s h70
          · have o71 := h64.oW
            refine Ok.e (gR_at o71 rfl) ?_
            refine Ok.b (h64.rop rk9 (by omega) (s_add (h64.rs rk9) _)) (fun x6 h72 => ?_)
            unfold jX2_makeTime_68
            have o73 := h72.oW
            refine Ok.e (gR_at o73 rfl) ?_
            refine Ok.b (h72.rop rk9 (by omega) (s_addDecimal (h72.rs rk9) _)) (fun x2 h74 => ?_)
            refine Ok.i (fun c75 => ?_) (fun c75 => ?_)
            · unfold jX2_makeTime_91
              refine Ok.b (pX2_addFraction h74 ) (fun x1 h76 => ?_)
              exact Ok.s h76
            · unfold jX2_makeTime_91
              refine Ok.b (pX2_addFraction h74 ) (fun x1 h77 => ?_)
              exact Ok.s h77
        · unfold jX2_makeTime_45
          refine Ok.e (gR_at o1 rfl) ?_
          refine Ok.b (h0.rop rk9 (by omega) (s_empty (h0.rs rk9))) (fun x2 h78 => ?_)
          refine Ok.i (fun c79 => ?_) (fun c79 => ?_)
          · unfold jX2_makeTime_68
            have o80 := h78.oW
            refine Ok.e (gR_at o80 rfl) ?_
            refine Ok.b (h78.rop rk9 (by omega) (s_addDecimal (h78.rs rk9) _)) (fun x2 h81 => ?_)
            refine Ok.i (fun c82 => ?_) (fun c82 => ?_)
            · unfold jX2_makeTime_91
              refine Ok.b (pX2_addFraction h81 ) (fun x1 h83 => ?_)
              exact Ok.s h83
            · unfold jX2_makeTime_91
              refine Ok.b (pX2_addFraction h81 ) (fun x1 h84 => ?_)
              exact Ok.s h84
          · have o85 := h78.oW
            refine Ok.e (gR_at o85 rfl) ?_
            refine Ok.b (h78.rop rk9 (by omega) (s_add (h78.rs rk9) _)) (fun x6 h86 => ?_)
            unfold jX2_makeTime_68
            have o87 := h86.oW
            refine Ok.e (gR_at o87 rfl) ?_
            refine Ok.b (h86.rop rk9 (by omega) (s_addDecimal (h86.rs rk9) _)) (fun x2 h88 => ?_)
            refine Ok.i (fun c89 => ?_) (fun c89 => ?_)
            · unfold jX2_makeTime_91
              refine Ok.b (pX2_addFraction h88 ) (fun x1 h90 => ?_)
              exact Ok.s h90
            · unfold jX2_makeTime_91
              refine Ok.b (pX2_addFraction h88 ) (fun x1 h91 => ?_)
              exact Ok.s h91
  · unfold jX2_makeTime_11
    refine Ok.i (fun c92 => ?_) (fun c92 => ?_)
    · unfold jX2_makeTime_26
      unfold jX2_makeTime_27
      refine Ok.i (fun c93 => ?_) (fun c93 => ?_)
      · refine Ok.e rfl ?_
        unfold jX2_makeTime_45
        refine Ok.e (gR_at o1 rfl) ?_
        refine Ok.b (h0.rop rk9 (by omega) (s_empty (h0.rs rk9))) (fun x2 h94 => ?_)
        refine Ok.i (fun c95 => ?_) (fun c95 => ?_)
        · unfold jX2_makeTime_68
          have o96 := h94.oW
          refine Ok.e (gR_at o96 rfl) ?_
          refine Ok.b (h94.rop rk9 (by omega) (s_addDecimal (h94.rs rk9) _)) (fun x2 h97 => ?_)
          refine Ok.i (fun c98 => ?_) (fun c98 => ?_)
          · unfold jX2_makeTime_91
            refine Ok.b (pX2_addFraction h97 ) (fun x1 h99 => ?_)
            exact Ok.s h99
          · unfold jX2_makeTime_91
            refine Ok.b (pX2_addFraction h97 ) (fun x1 h100 => ?_)
            exact Ok.s h100
        · have o101 := h94.oW
          refine Ok.e (gR_at o101 rfl) ?_
          refine Ok.b (h94.rop rk9 (by omega) (s_add (h94.rs rk9) _)) (fun x6 h102 => ?_)
          unfold jX2_makeTime_68
          have o103 := h102.oW
          refine Ok.e (gR_at o103 rfl) ?_
          refine Ok.b (h102.rop rk9 (by omega) (s_addDecimal (h102.rs rk9) _)) (fun x2 h104 => ?_)
          refine Ok.i (fun c105 => ?_) (fun c105 => ?_)
          · unfold jX2_makeTime_91
            refine Ok.b (pX2_addFraction h104 ) (fun x1 h106 => ?_)
            exact Ok.s h106
          · unfold jX2_makeTime_91
            refine Ok.b (pX2_addFraction h104 ) (fun x1 h107 => ?_)
            exact Ok.s h107
      · unfold jX2_makeTime_45
        refine Ok.e (gR_at o1 rfl) ?_
        refine Ok.b (h0.rop rk9 (by omega) (s_empty (h0.rs rk9))) (fun x2 h108 => ?_)
        refine Ok.i (fun c109 => ?_) (fun c109 => ?_)
        · unfold jX2_makeTime_68
          have o110 := h108.oW
          refine Ok.e (gR_at o110 rfl) ?_
          refine Ok.b (h108.rop rk9 (by omega) (s_addDecimal (h108.rs rk9) _)) (fun x2 h111 => ?_)
          refine Ok.i (fun c112 => ?_) (fun c112 => ?_)
          · unfold jX2_makeTime_91
            refine Ok.b (pX2_addFraction h111 ) (fun x1 h113 => ?_)
            exact Ok.s h113
          · unfold jX2_makeTime_91
            refine Ok.b (pX2_addFraction h111 ) (fun x1 h114 => ?_)
            exact Ok.s h114
        · have o115 := h108.oW
          refine Ok.e (gR_at o115 rfl) ?_
          refine Ok.b (h108.rop rk9 (by omega) (s_add (h108.rs rk9) _)) (fun x6 h116 => ?_)
          unfold jX2_makeTime_68
          have o117 := h116.oW
          refine Ok.e (gR_at o117 rfl) ?_
          refine Ok.b (h116.rop rk9 (by omega) (s_addDecimal (h116.rs rk9) _)) (fun x2 h118 => ?_)
          refine Ok.i (fun c119 => ?_) (fun c119 => ?_)
          · unfold jX2_makeTime_91
            refine Ok.b (pX2_addFraction h118 ) (fun x1 h120 => ?_)
            exact Ok.s h120
          · unfold jX2_makeTime_91
            refine Ok.b (pX2_addFraction h118 ) (fun x1 h121 => ?_)
            exact Ok.s h121
    · refine Ok.i (fun c122 => ?_) (fun c122 => ?_)
      · unfold jX2_makeTime_26
        unfold jX2_makeTime_27
        refine Ok.i (fun c123 => ?_) (fun c123 => ?_)
        · refine Ok.e rfl ?_
          unfold jX2_makeTime_45
          refine Ok.e (gR_at o1 rfl) ?_
          refine Ok.b (h0.rop rk9 (by omega) (s_empty (h0.rs rk9))) (fun x2 h124 => ?_)
          refine Ok.i (fun c125 => ?_) (fun c125 => ?_)
          · unfold jX2_makeTime_68
            have o126 := h124.oW
            refine Ok.e (gR_at o126 rfl) ?_
            refine Ok.b (h124.rop rk9 (by omega) (s_addDecimal (h124.rs rk9) _)) (fun x2 h127 => ?_)
            refine Ok.i (fun c128 => ?_) (fun c128 => ?_)
            · unfold jX2_makeTime_91
              refine Ok.b (pX2_addFraction h127 ) (fun x1 h129 => ?_)
              exact Ok.s h129
            · unfold jX2_makeTime_91
              refine Ok.b (pX2_addFraction h127 ) (fun x1 h130 => ?_)
              exact Ok.s h130
          · have o131 := h124.oW
            refine Ok.e (gR_at o131 rfl) ?_
            refine Ok.b (h124.rop rk9 (by omega) (s_add (h124.rs rk9) _)) (fun x6 h132 => ?_)
            unfold jX2_makeTime_68
            have o133 := h132.oW
            refine Ok.e (gR_at o133 rfl) ?_
            refine Ok.b (h132.rop rk9 (by omega) (s_addDecimal (h132.rs rk9) _)) (fun x2 h134 => ?_)
            refine Ok.i (fun c135 => ?_) (fun c135 => ?_)
            · unfold jX2_makeTime_91
              refine Ok.b (pX2_addFraction h134 ) (fun x1 h136 => ?_)
              exact Ok.s h136
            · unfold jX2_makeTime_91
              refine Ok.b (pX2_addFraction h134 ) (fun x1 h137 => ?_)
              exact Ok.s h137
        · unfold jX2_makeTime_45
          refine Ok.e (gR_at o1 rfl) ?_
          refine Ok.b (h0.rop rk9 (by omega) (s_empty (h0.rs rk9))) (fun x2 h138 => ?_)
          refine Ok.i (fun c139 => ?_) (fun c139 => ?_)
          · unfold jX2_makeTime_68
            have o140 := h138.oW
            refine Ok.e (gR_at o140 rfl) ?_
            refine Ok.b (h138.rop rk9 (by omega) (s_addDecimal (h138.rs rk9) _)) (fun x2 h141 => ?_)
            refine Ok.i (fun c142 => ?_) (fun c142 => ?_)
            · unfold jX2_makeTime_91
              refine Ok.b (pX2_addFraction h141 ) (fun x1 h143 => ?_)
              exact Ok.s h143
            · unfold jX2_makeTime_91
              refine Ok.b (pX2_addFraction h141 ) (fun x1 h144 => ?_)
              exact Ok.s h144
          · have o145 := h138.oW
            refine Ok.e (gR_at o145 rfl) ?_
            refine Ok.b (h138.rop rk9 (by omega) (s_add (h138.rs rk9) _)) (fun x6 h146 => ?_)
            unfold jX2_makeTime_68
            have o147 := h146.oW
            refine Ok.e (gR_at o147 rfl) ?_
            refine Ok.b (h146.rop rk9 (by omega) (s_addDecimal (h146.rs rk9) _)) (fun x2 h148 => ?_)
            refine Ok.i (fun c149 => ?_) (fun c149 => ?_)
            · unfold jX2_makeTime_91
              refine Ok.b (pX2_addFraction h148 ) (fun x1 h150 => ?_)
              exact Ok.s h150
            · unfold jX2_makeTime_91
              refine Ok.b (pX2_addFraction h148 ) (fun x1 h151 => ?_)
              exact Ok.s h151
      · unfold jX2_makeTime_27
        refine Ok.i (fun c152 => ?_) (fun c152 => ?_)
        · refine Ok.e rfl ?_
          unfold jX2_makeTime_45
          refine Ok.e (gR_at o1 rfl) ?_
          refine Ok.b (h0.rop rk9 (by omega) (s_empty (h0.rs rk9))) (fun x2 h153 => ?_)
          refine Ok.i (fun c154 => ?_) (fun c154 => ?_)
          · unfold jX2_makeTime_68
            have o155 := h153.oW
            refine Ok.e (gR_at o155 rfl) ?_
            refine Ok.b (h153.rop rk9 (by omega) (s_addDecimal (h153.rs rk9) _)) (fun x2 h156 => ?_)
            refine Ok.i (fun c157 => ?_) (fun c157 => ?_)
            · unfold jX2_makeTime_91
              refine Ok.b (pX2_addFraction h156 ) (fun x1 h158 => ?_)
              exact Ok.s h158
            · unfold jX2_makeTime_91
              refine Ok.b (pX2_addFraction h156 ) (fun x1 h159 => ?_)
              exact Ok.s h159
          · have o160 := h153.oW
            refine Ok.e (gR_at o160 rfl) ?_
            refine Ok.b (h153.rop rk9 (by omega) (s_add (h153.rs rk9) _)) (fun x6 h161 => ?_)
            unfold jX2_makeTime_68
            have o162 := h161.oW
            refine Ok.e (gR_at o162 rfl) ?_
            refine Ok.b (h161.rop rk9 (by omega) (s_addDecimal (h161.rs rk9) _)) (fun x2 h163 => ?_)
            refine Ok.i (fun c164 => ?_) (fun c164 => ?_)
            · unfold jX2_makeTime_91
              refine Ok.b (pX2_addFraction h163 ) (fun x1 h165 => ?_)
              exact Ok.s h165
            · unfold jX2_makeTime_91
              refine Ok.b (pX2_addFraction h163 ) (fun x1 h166 => ?_)
              exact Ok.s h166
        · unfold jX2_makeTime_45
          refine Ok.e (gR_at o1 rfl) ?_
          refine Ok.b (h0.rop rk9 (by omega) (s_empty (h0.rs rk9))) (fun x2 h167 => ?_)
          refine Ok.i (fun c168 => ?_) (fun c168 => ?_)
          · unfold jX2_makeTime_68
            have o169 := h167.oW
            refine Ok.e (gR_at o169 rfl) ?_
            refine Ok.b (h167.rop rk9 (by omega) (s_addDecimal (h167.rs rk9) _)) (fun x2 h170 => ?_)
            refine Ok.i (fun c171 => ?_) (fun c171 => ?_)
            · unfold jX2_makeTime_91
              refine Ok.b (pX2_addFraction h170 ) (fun x1 h172 => ?_)
              exact Ok.s h172
            · unfold jX2_makeTime_91
              refine Ok.b (pX2_addFraction h170 ) (fun x1 h173 => ?_)
              exact Ok.s h173
          · have o174 := h167.oW
            refine Ok.e (gR_at o174 rfl) ?_
            refine Ok.b (h167.rop rk9 (by omega) (s_add (h167.rs rk9) _)) (fun x6 h175 => ?_)
            unfold jX2_makeTime_68
            have o176 := h175.oW
            refine Ok.e (gR_at o176 rfl) ?_
            refine Ok.b (h175.rop rk9 (by omega) (s_addDecimal (h175.rs rk9) _)) (fun x2 h177 => ?_)
            refine Ok.i (fun c178 => ?_) (fun c178 => ?_)
            · unfold jX2_makeTime_91
              refine Ok.b (pX2_addFraction h177 ) (fun x1 h179 => ?_)
              exact Ok.s h179
            · unfold jX2_makeTime_91
              refine Ok.b (pX2_addFraction h177 ) (fun x1 h180 => ?_)
              exact Ok.s h180
theorem pX2_makeRows {v : Nat → Nat} {G0 G : gH} {b : Nat} {O : Nat → Nat → Int32} {P : Nat → Nat → Int64}  (h0 : Rch v G0 b O P 3 11 G) {ke : Nat} (hke : ekB ke = true) : Ok (Rch v G0 b O P 3 11) (fX2_makeRows v G (b + 6) (b + ke)) := by
  have ze := ekB_iff.mp hke
  unfold fX2_makeRows
  have o1 := h0.oW
  refine Ok.e (gOb_at o1) ?_
  refine Ok.e (gR_at o1 rfl) ?_
  refine Ok.b (h0.rop rk7 (by omega) (s_empty (h0.rs rk7))) (fun x2 h2 => ?_)
  refine Ok.b (pX3_isNameInFields h2 (hke)) (fun x4 h3 => ?_)
  refine Ok.i (fun c4 => ?_) (fun c4 => ?_)
  · have o5 := h2.oE' hke (by omega)
    refine Ok.e (gR_at o5 rfl) ?_
    refine Ok.b (pX2_addRow h2 (h2.strs ⟨by decide, by decide⟩) ((rkE1 hke)) (by omega)) (fun x8 h6 => ?_)
    unfold jX2_makeRows_24
    have o7 := h6.oE' hke (by omega)
    refine Ok.e (gR_at o7 rfl) ?_
    refine Ok.b (h6.count (rkE3 hke)) (fun x2 hu8 => ?_)
    refine Ok.i (fun c9 => ?_) (fun c9 => ?_)
    · unfold jX2_makeRows_46
      refine Ok.b (pX3_isFitting h6 (hke) (j := 1) (by decide)) (fun x1 h10 => ?_)
      refine Ok.i (fun c11 => ?_) (fun c11 => ?_)
      · refine Ok.e (gR_at o7 rfl) ?_
        refine Ok.b (h6.ldE (j := 1) hke (by decide)) (fun _ _ => ?_)
        refine Ok.b (pX2_addNumberRow h6 (h6.strs ⟨by decide, by decide⟩)) (fun x6 h12 => ?_)
        unfold jX2_makeRows_68
        refine Ok.b (pX3_isFitting h12 (hke) (j := 2) (by decide)) (fun x1 h13 => ?_)
        refine Ok.i (fun c14 => ?_) (fun c14 => ?_)
        · have o15 := h12.oE' hke (by omega)
          refine Ok.e (gR_at o15 rfl) ?_
          refine Ok.b (h12.ldE (j := 2) hke (by decide)) (fun _ _ => ?_)
          refine Ok.b (pX2_addNumberRow h12 (h12.strs ⟨by decide, by decide⟩)) (fun x6 h16 => ?_)
          unfold jX2_makeRows_90
          refine Ok.b (pX3_isFitting h16 (hke) (j := 3) (by decide)) (fun x1 h17 => ?_)
          refine Ok.i (fun c18 => ?_) (fun c18 => ?_)
          · unfold jX2_makeRows_111
            have o19 := h16.oE' hke (by omega)
            refine Ok.e (gR_at o19 rfl) ?_
            refine Ok.b (h16.ldE (j := 3) hke (by decide)) (fun _ _ => ?_)
            refine Ok.e (gR_at o19 rfl) ?_
            refine Ok.b (h16.ldE (j := 4) hke (by decide)) (fun _ _ => ?_)
            refine Ok.b (pX2_makeTime h16 ) (fun x5 h20 => ?_)
            have o21 := h20.oW
            refine Ok.e (gR_at o21 rfl) ?_
            refine Ok.b (pX2_addRow h20 (h20.strs ⟨by decide, by decide⟩) (rk9) (by omega)) (fun x8 h22 => ?_)
            exact Ok.s h22
          · have o23 := h16.oE' hke (by omega)
            refine Ok.e (gR_at o23 rfl) ?_
            refine Ok.b (h16.ldE (j := 4) hke (by decide)) (fun _ _ => ?_)
            refine Ok.i (fun c24 => ?_) (fun c24 => ?_)
            · exact Ok.s h16
            · unfold jX2_makeRows_111
              refine Ok.e (gR_at o23 rfl) ?_
              refine Ok.b (h16.ldE (j := 3) hke (by decide)) (fun _ _ => ?_)
              refine Ok.e (gR_at o23 rfl) ?_
              refine Ok.b (h16.ldE (j := 4) hke (by decide)) (fun _ _ => ?_)
              refine Ok.b (pX2_makeTime h16 ) (fun x5 h25 => ?_)
              have o26 := h25.oW
              refine Ok.e (gR_at o26 rfl) ?_
              refine Ok.b (pX2_addRow h25 (h25.strs ⟨by decide, by decide⟩) (rk9) (by omega)) (fun x8 h27 => ?_)
              exact Ok.s h27
        · unfold jX2_makeRows_90
          refine Ok.b (pX3_isFitting h12 (hke) (j := 3) (by decide)) (fun x1 h28 => ?_)
          refine Ok.i (fun c29 => ?_) (fun c29 => ?_)
          · unfold jX2_makeRows_111
            have o30 := h12.oE' hke (by omega)
            refine Ok.e (gR_at o30 rfl) ?_
            refine Ok.b (h12.ldE (j := 3) hke (by decide)) (fun _ _ => ?_)
            refine Ok.e (gR_at o30 rfl) ?_
            refine Ok.b (h12.ldE (j := 4) hke (by decide)) (fun _ _ => ?_)
            refine Ok.b (pX2_makeTime h12 ) (fun x5 h31 => ?_)
            have o32 := h31.oW
            refine Ok.e (gR_at o32 rfl) ?_
            refine Ok.b (pX2_addRow h31 (h31.strs ⟨by decide, by decide⟩) (rk9) (by omega)) (fun x8 h33 => ?_)
            exact Ok.s h33
          · have o34 := h12.oE' hke (by omega)
            refine Ok.e (gR_at o34 rfl) ?_
            refine Ok.b (h12.ldE (j := 4) hke (by decide)) (fun _ _ => ?_)
            refine Ok.i (fun c35 => ?_) (fun c35 => ?_)
            · exact Ok.s h12
            · unfold jX2_makeRows_111
              refine Ok.e (gR_at o34 rfl) ?_
              refine Ok.b (h12.ldE (j := 3) hke (by decide)) (fun _ _ => ?_)
              refine Ok.e (gR_at o34 rfl) ?_
              refine Ok.b (h12.ldE (j := 4) hke (by decide)) (fun _ _ => ?_)
              refine Ok.b (pX2_makeTime h12 ) (fun x5 h36 => ?_)
              have o37 := h36.oW
              refine Ok.e (gR_at o37 rfl) ?_
              refine Ok.b (pX2_addRow h36 (h36.strs ⟨by decide, by decide⟩) (rk9) (by omega)) (fun x8 h38 => ?_)
              exact Ok.s h38
      · unfold jX2_makeRows_68
        refine Ok.b (pX3_isFitting h6 (hke) (j := 2) (by decide)) (fun x1 h39 => ?_)
        refine Ok.i (fun c40 => ?_) (fun c40 => ?_)
        · refine Ok.e (gR_at o7 rfl) ?_
          refine Ok.b (h6.ldE (j := 2) hke (by decide)) (fun _ _ => ?_)
          refine Ok.b (pX2_addNumberRow h6 (h6.strs ⟨by decide, by decide⟩)) (fun x6 h41 => ?_)
          unfold jX2_makeRows_90
          refine Ok.b (pX3_isFitting h41 (hke) (j := 3) (by decide)) (fun x1 h42 => ?_)
          refine Ok.i (fun c43 => ?_) (fun c43 => ?_)
          · unfold jX2_makeRows_111
            have o44 := h41.oE' hke (by omega)
            refine Ok.e (gR_at o44 rfl) ?_
            refine Ok.b (h41.ldE (j := 3) hke (by decide)) (fun _ _ => ?_)
            refine Ok.e (gR_at o44 rfl) ?_
            refine Ok.b (h41.ldE (j := 4) hke (by decide)) (fun _ _ => ?_)
            refine Ok.b (pX2_makeTime h41 ) (fun x5 h45 => ?_)
            have o46 := h45.oW
            refine Ok.e (gR_at o46 rfl) ?_
            refine Ok.b (pX2_addRow h45 (h45.strs ⟨by decide, by decide⟩) (rk9) (by omega)) (fun x8 h47 => ?_)
            exact Ok.s h47
          · have o48 := h41.oE' hke (by omega)
            refine Ok.e (gR_at o48 rfl) ?_
            refine Ok.b (h41.ldE (j := 4) hke (by decide)) (fun _ _ => ?_)
            refine Ok.i (fun c49 => ?_) (fun c49 => ?_)
            · exact Ok.s h41
            · unfold jX2_makeRows_111
              refine Ok.e (gR_at o48 rfl) ?_
              refine Ok.b (h41.ldE (j := 3) hke (by decide)) (fun _ _ => ?_)
              refine Ok.e (gR_at o48 rfl) ?_
              refine Ok.b (h41.ldE (j := 4) hke (by decide)) (fun _ _ => ?_)
              refine Ok.b (pX2_makeTime h41 ) (fun x5 h50 => ?_)
              have o51 := h50.oW
              refine Ok.e (gR_at o51 rfl) ?_
              refine Ok.b (pX2_addRow h50 (h50.strs ⟨by decide, by decide⟩) (rk9) (by omega)) (fun x8 h52 => ?_)
              exact Ok.s h52
        · unfold jX2_makeRows_90
          refine Ok.b (pX3_isFitting h6 (hke) (j := 3) (by decide)) (fun x1 h53 => ?_)
          refine Ok.i (fun c54 => ?_) (fun c54 => ?_)
          · unfold jX2_makeRows_111
            refine Ok.e (gR_at o7 rfl) ?_
            refine Ok.b (h6.ldE (j := 3) hke (by decide)) (fun _ _ => ?_)
            refine Ok.e (gR_at o7 rfl) ?_
            refine Ok.b (h6.ldE (j := 4) hke (by decide)) (fun _ _ => ?_)
            refine Ok.b (pX2_makeTime h6 ) (fun x5 h55 => ?_)
            have o56 := h55.oW
            refine Ok.e (gR_at o56 rfl) ?_
            refine Ok.b (pX2_addRow h55 (h55.strs ⟨by decide, by decide⟩) (rk9) (by omega)) (fun x8 h57 => ?_)
            exact Ok.s h57
          · refine Ok.e (gR_at o7 rfl) ?_
            refine Ok.b (h6.ldE (j := 4) hke (by decide)) (fun _ _ => ?_)
            refine Ok.i (fun c58 => ?_) (fun c58 => ?_)
            · exact Ok.s h6
            · unfold jX2_makeRows_111
              refine Ok.e (gR_at o7 rfl) ?_
              refine Ok.b (h6.ldE (j := 3) hke (by decide)) (fun _ _ => ?_)
              refine Ok.e (gR_at o7 rfl) ?_
              refine Ok.b (h6.ldE (j := 4) hke (by decide)) (fun _ _ => ?_)
              refine Ok.b (pX2_makeTime h6 ) (fun x5 h59 => ?_)
              have o60 := h59.oW
              refine Ok.e (gR_at o60 rfl) ?_
              refine Ok.b (pX2_addRow h59 (h59.strs ⟨by decide, by decide⟩) (rk9) (by omega)) (fun x8 h61 => ?_)
              exact Ok.s h61
    · refine Ok.e (gR_at o7 rfl) ?_
      refine Ok.b (pX2_addRow h6 (h6.strs ⟨by decide, by decide⟩) ((rkE3 hke)) (by omega)) (fun x6 h62 => ?_)
      unfold jX2_makeRows_46
      refine Ok.b (pX3_isFitting h62 (hke) (j := 1) (by decide)) (fun x1 h63 => ?_)
      refine Ok.i (fun c64 => ?_) (fun c64 => ?_)
      · have o65 := h62.oE' hke (by omega)
        refine Ok.e (gR_at o65 rfl) ?_
        refine Ok.b (h62.ldE (j := 1) hke (by decide)) (fun _ _ => ?_)
        refine Ok.b (pX2_addNumberRow h62 (h62.strs ⟨by decide, by decide⟩)) (fun x6 h66 => ?_)
        unfold jX2_makeRows_68
        refine Ok.b (pX3_isFitting h66 (hke) (j := 2) (by decide)) (fun x1 h67 => ?_)
        refine Ok.i (fun c68 => ?_) (fun c68 => ?_)
        · have o69 := h66.oE' hke (by omega)
          refine Ok.e (gR_at o69 rfl) ?_
          refine Ok.b (h66.ldE (j := 2) hke (by decide)) (fun _ _ => ?_)
          refine Ok.b (pX2_addNumberRow h66 (h66.strs ⟨by decide, by decide⟩)) (fun x6 h70 => ?_)
          unfold jX2_makeRows_90
          refine Ok.b (pX3_isFitting h70 (hke) (j := 3) (by decide)) (fun x1 h71 => ?_)
          refine Ok.i (fun c72 => ?_) (fun c72 => ?_)
          · unfold jX2_makeRows_111
            have o73 := h70.oE' hke (by omega)
            refine Ok.e (gR_at o73 rfl) ?_
            refine Ok.b (h70.ldE (j := 3) hke (by decide)) (fun _ _ => ?_)
            refine Ok.e (gR_at o73 rfl) ?_
            refine Ok.b (h70.ldE (j := 4) hke (by decide)) (fun _ _ => ?_)
            refine Ok.b (pX2_makeTime h70 ) (fun x5 h74 => ?_)
            have o75 := h74.oW
            refine Ok.e (gR_at o75 rfl) ?_
            refine Ok.b (pX2_addRow h74 (h74.strs ⟨by decide, by decide⟩) (rk9) (by omega)) (fun x8 h76 => ?_)
            exact Ok.s h76
          · have o77 := h70.oE' hke (by omega)
            refine Ok.e (gR_at o77 rfl) ?_
            refine Ok.b (h70.ldE (j := 4) hke (by decide)) (fun _ _ => ?_)
            refine Ok.i (fun c78 => ?_) (fun c78 => ?_)
            · exact Ok.s h70
            · unfold jX2_makeRows_111
              refine Ok.e (gR_at o77 rfl) ?_
              refine Ok.b (h70.ldE (j := 3) hke (by decide)) (fun _ _ => ?_)
              refine Ok.e (gR_at o77 rfl) ?_
              refine Ok.b (h70.ldE (j := 4) hke (by decide)) (fun _ _ => ?_)
              refine Ok.b (pX2_makeTime h70 ) (fun x5 h79 => ?_)
              have o80 := h79.oW
              refine Ok.e (gR_at o80 rfl) ?_
              refine Ok.b (pX2_addRow h79 (h79.strs ⟨by decide, by decide⟩) (rk9) (by omega)) (fun x8 h81 => ?_)
              exact Ok.s h81
        · unfold jX2_makeRows_90
          refine Ok.b (pX3_isFitting h66 (hke) (j := 3) (by decide)) (fun x1 h82 => ?_)
          refine Ok.i (fun c83 => ?_) (fun c83 => ?_)
          · unfold jX2_makeRows_111
            have o84 := h66.oE' hke (by omega)
            refine Ok.e (gR_at o84 rfl) ?_
            refine Ok.b (h66.ldE (j := 3) hke (by decide)) (fun _ _ => ?_)
            refine Ok.e (gR_at o84 rfl) ?_
            refine Ok.b (h66.ldE (j := 4) hke (by decide)) (fun _ _ => ?_)
            refine Ok.b (pX2_makeTime h66 ) (fun x5 h85 => ?_)
            have o86 := h85.oW
            refine Ok.e (gR_at o86 rfl) ?_
            refine Ok.b (pX2_addRow h85 (h85.strs ⟨by decide, by decide⟩) (rk9) (by omega)) (fun x8 h87 => ?_)
            exact Ok.s h87
          · have o88 := h66.oE' hke (by omega)
            refine Ok.e (gR_at o88 rfl) ?_
            refine Ok.b (h66.ldE (j := 4) hke (by decide)) (fun _ _ => ?_)
            refine Ok.i (fun c89 => ?_) (fun c89 => ?_)
            · exact Ok.s h66
            · unfold jX2_makeRows_111
              refine Ok.e (gR_at o88 rfl) ?_
              refine Ok.b (h66.ldE (j := 3) hke (by decide)) (fun _ _ => ?_)
              refine Ok.e (gR_at o88 rfl) ?_
              refine Ok.b (h66.ldE (j := 4) hke (by decide)) (fun _ _ => ?_)
              refine Ok.b (pX2_makeTime h66 ) (fun x5 h90 => ?_)
              have o91 := h90.oW
              refine Ok.e (gR_at o91 rfl) ?_
              refine Ok.b (pX2_addRow h90 (h90.strs ⟨by decide, by decide⟩) (rk9) (by omega)) (fun x8 h92 => ?_)
              exact Ok.s h92
      · unfold jX2_makeRows_68
        refine Ok.b (pX3_isFitting h62 (hke) (j := 2) (by decide)) (fun x1 h93 => ?_)
        refine Ok.i (fun c94 => ?_) (fun c94 => ?_)
        · have o95 := h62.oE' hke (by omega)
          refine Ok.e (gR_at o95 rfl) ?_
          refine Ok.b (h62.ldE (j := 2) hke (by decide)) (fun _ _ => ?_)
          refine Ok.b (pX2_addNumberRow h62 (h62.strs ⟨by decide, by decide⟩)) (fun x6 h96 => ?_)
          unfold jX2_makeRows_90
          refine Ok.b (pX3_isFitting h96 (hke) (j := 3) (by decide)) (fun x1 h97 => ?_)
          refine Ok.i (fun c98 => ?_) (fun c98 => ?_)
          · unfold jX2_makeRows_111
            have o99 := h96.oE' hke (by omega)
            refine Ok.e (gR_at o99 rfl) ?_
            refine Ok.b (h96.ldE (j := 3) hke (by decide)) (fun _ _ => ?_)
            refine Ok.e (gR_at o99 rfl) ?_
            refine Ok.b (h96.ldE (j := 4) hke (by decide)) (fun _ _ => ?_)
            refine Ok.b (pX2_makeTime h96 ) (fun x5 h100 => ?_)
            have o101 := h100.oW
            refine Ok.e (gR_at o101 rfl) ?_
            refine Ok.b (pX2_addRow h100 (h100.strs ⟨by decide, by decide⟩) (rk9) (by omega)) (fun x8 h102 => ?_)
            exact Ok.s h102
          · have o103 := h96.oE' hke (by omega)
            refine Ok.e (gR_at o103 rfl) ?_
            refine Ok.b (h96.ldE (j := 4) hke (by decide)) (fun _ _ => ?_)
            refine Ok.i (fun c104 => ?_) (fun c104 => ?_)
            · exact Ok.s h96
            · unfold jX2_makeRows_111
              refine Ok.e (gR_at o103 rfl) ?_
              refine Ok.b (h96.ldE (j := 3) hke (by decide)) (fun _ _ => ?_)
              refine Ok.e (gR_at o103 rfl) ?_
              refine Ok.b (h96.ldE (j := 4) hke (by decide)) (fun _ _ => ?_)
              refine Ok.b (pX2_makeTime h96 ) (fun x5 h105 => ?_)
              have o106 := h105.oW
              refine Ok.e (gR_at o106 rfl) ?_
              refine Ok.b (pX2_addRow h105 (h105.strs ⟨by decide, by decide⟩) (rk9) (by omega)) (fun x8 h107 => ?_)
              exact Ok.s h107
        · unfold jX2_makeRows_90
          refine Ok.b (pX3_isFitting h62 (hke) (j := 3) (by decide)) (fun x1 h108 => ?_)
          refine Ok.i (fun c109 => ?_) (fun c109 => ?_)
          · unfold jX2_makeRows_111
            have o110 := h62.oE' hke (by omega)
            refine Ok.e (gR_at o110 rfl) ?_
            refine Ok.b (h62.ldE (j := 3) hke (by decide)) (fun _ _ => ?_)
            refine Ok.e (gR_at o110 rfl) ?_
            refine Ok.b (h62.ldE (j := 4) hke (by decide)) (fun _ _ => ?_)
            refine Ok.b (pX2_makeTime h62 ) (fun x5 h111 => ?_)
            have o112 := h111.oW
            refine Ok.e (gR_at o112 rfl) ?_
            refine Ok.b (pX2_addRow h111 (h111.strs ⟨by decide, by decide⟩) (rk9) (by omega)) (fun x8 h113 => ?_)
            exact Ok.s h113
          · have o114 := h62.oE' hke (by omega)
            refine Ok.e (gR_at o114 rfl) ?_
            refine Ok.b (h62.ldE (j := 4) hke (by decide)) (fun _ _ => ?_)
            refine Ok.i (fun c115 => ?_) (fun c115 => ?_)
            · exact Ok.s h62
            · unfold jX2_makeRows_111
              refine Ok.e (gR_at o114 rfl) ?_
              refine Ok.b (h62.ldE (j := 3) hke (by decide)) (fun _ _ => ?_)
              refine Ok.e (gR_at o114 rfl) ?_
              refine Ok.b (h62.ldE (j := 4) hke (by decide)) (fun _ _ => ?_)
              refine Ok.b (pX2_makeTime h62 ) (fun x5 h116 => ?_)
              have o117 := h116.oW
              refine Ok.e (gR_at o117 rfl) ?_
              refine Ok.b (pX2_addRow h116 (h116.strs ⟨by decide, by decide⟩) (rk9) (by omega)) (fun x8 h118 => ?_)
              exact Ok.s h118
  · unfold jX2_makeRows_24
    have o119 := h2.oE' hke (by omega)
    refine Ok.e (gR_at o119 rfl) ?_
    refine Ok.b (h2.count (rkE3 hke)) (fun x2 hu120 => ?_)
    refine Ok.i (fun c121 => ?_) (fun c121 => ?_)
    · unfold jX2_makeRows_46
      refine Ok.b (pX3_isFitting h2 (hke) (j := 1) (by decide)) (fun x1 h122 => ?_)
      refine Ok.i (fun c123 => ?_) (fun c123 => ?_)
      · refine Ok.e (gR_at o119 rfl) ?_
        refine Ok.b (h2.ldE (j := 1) hke (by decide)) (fun _ _ => ?_)
        refine Ok.b (pX2_addNumberRow h2 (h2.strs ⟨by decide, by decide⟩)) (fun x6 h124 => ?_)
        unfold jX2_makeRows_68
        refine Ok.b (pX3_isFitting h124 (hke) (j := 2) (by decide)) (fun x1 h125 => ?_)
        refine Ok.i (fun c126 => ?_) (fun c126 => ?_)
        · have o127 := h124.oE' hke (by omega)
          refine Ok.e (gR_at o127 rfl) ?_
          refine Ok.b (h124.ldE (j := 2) hke (by decide)) (fun _ _ => ?_)
          refine Ok.b (pX2_addNumberRow h124 (h124.strs ⟨by decide, by decide⟩)) (fun x6 h128 => ?_)
          unfold jX2_makeRows_90
          refine Ok.b (pX3_isFitting h128 (hke) (j := 3) (by decide)) (fun x1 h129 => ?_)
          refine Ok.i (fun c130 => ?_) (fun c130 => ?_)
          · unfold jX2_makeRows_111
            have o131 := h128.oE' hke (by omega)
            refine Ok.e (gR_at o131 rfl) ?_
            refine Ok.b (h128.ldE (j := 3) hke (by decide)) (fun _ _ => ?_)
            refine Ok.e (gR_at o131 rfl) ?_
            refine Ok.b (h128.ldE (j := 4) hke (by decide)) (fun _ _ => ?_)
            refine Ok.b (pX2_makeTime h128 ) (fun x5 h132 => ?_)
            have o133 := h132.oW
            refine Ok.e (gR_at o133 rfl) ?_
            refine Ok.b (pX2_addRow h132 (h132.strs ⟨by decide, by decide⟩) (rk9) (by omega)) (fun x8 h134 => ?_)
            exact Ok.s h134
          · have o135 := h128.oE' hke (by omega)
            refine Ok.e (gR_at o135 rfl) ?_
            refine Ok.b (h128.ldE (j := 4) hke (by decide)) (fun _ _ => ?_)
            refine Ok.i (fun c136 => ?_) (fun c136 => ?_)
            · exact Ok.s h128
            · unfold jX2_makeRows_111
              refine Ok.e (gR_at o135 rfl) ?_
              refine Ok.b (h128.ldE (j := 3) hke (by decide)) (fun _ _ => ?_)
              refine Ok.e (gR_at o135 rfl) ?_
              refine Ok.b (h128.ldE (j := 4) hke (by decide)) (fun _ _ => ?_)
              refine Ok.b (pX2_makeTime h128 ) (fun x5 h137 => ?_)
              have o138 := h137.oW
              refine Ok.e (gR_at o138 rfl) ?_
              refine Ok.b (pX2_addRow h137 (h137.strs ⟨by decide, by decide⟩) (rk9) (by omega)) (fun x8 h139 => ?_)
              exact Ok.s h139
        · unfold jX2_makeRows_90
          refine Ok.b (pX3_isFitting h124 (hke) (j := 3) (by decide)) (fun x1 h140 => ?_)
          refine Ok.i (fun c141 => ?_) (fun c141 => ?_)
          · unfold jX2_makeRows_111
            have o142 := h124.oE' hke (by omega)
            refine Ok.e (gR_at o142 rfl) ?_
            refine Ok.b (h124.ldE (j := 3) hke (by decide)) (fun _ _ => ?_)
            refine Ok.e (gR_at o142 rfl) ?_
            refine Ok.b (h124.ldE (j := 4) hke (by decide)) (fun _ _ => ?_)
            refine Ok.b (pX2_makeTime h124 ) (fun x5 h143 => ?_)
            have o144 := h143.oW
            refine Ok.e (gR_at o144 rfl) ?_
            refine Ok.b (pX2_addRow h143 (h143.strs ⟨by decide, by decide⟩) (rk9) (by omega)) (fun x8 h145 => ?_)
            exact Ok.s h145
          · have o146 := h124.oE' hke (by omega)
            refine Ok.e (gR_at o146 rfl) ?_
            refine Ok.b (h124.ldE (j := 4) hke (by decide)) (fun _ _ => ?_)
            refine Ok.i (fun c147 => ?_) (fun c147 => ?_)
            · exact Ok.s h124
            · unfold jX2_makeRows_111
              refine Ok.e (gR_at o146 rfl) ?_
              refine Ok.b (h124.ldE (j := 3) hke (by decide)) (fun _ _ => ?_)
              refine Ok.e (gR_at o146 rfl) ?_
              refine Ok.b (h124.ldE (j := 4) hke (by decide)) (fun _ _ => ?_)
              refine Ok.b (pX2_makeTime h124 ) (fun x5 h148 => ?_)
              have o149 := h148.oW
              refine Ok.e (gR_at o149 rfl) ?_
              refine Ok.b (pX2_addRow h148 (h148.strs ⟨by decide, by decide⟩) (rk9) (by omega)) (fun x8 h150 => ?_)
              exact Ok.s h150
      · unfold jX2_makeRows_68
        refine Ok.b (pX3_isFitting h2 (hke) (j := 2) (by decide)) (fun x1 h151 => ?_)
        refine Ok.i (fun c152 => ?_) (fun c152 => ?_)
        · refine Ok.e (gR_at o119 rfl) ?_
          refine Ok.b (h2.ldE (j := 2) hke (by decide)) (fun _ _ => ?_)
          refine Ok.b (pX2_addNumberRow h2 (h2.strs ⟨by decide, by decide⟩)) (fun x6 h153 => ?_)
          unfold jX2_makeRows_90
          refine Ok.b (pX3_isFitting h153 (hke) (j := 3) (by decide)) (fun x1 h154 => ?_)
          refine Ok.i (fun c155 => ?_) (fun c155 => ?_)
          · unfold jX2_makeRows_111
            have o156 := h153.oE' hke (by omega)
            refine Ok.e (gR_at o156 rfl) ?_
            refine Ok.b (h153.ldE (j := 3) hke (by decide)) (fun _ _ => ?_)
            refine Ok.e (gR_at o156 rfl) ?_
            refine Ok.b (h153.ldE (j := 4) hke (by decide)) (fun _ _ => ?_)
            refine Ok.b (pX2_makeTime h153 ) (fun x5 h157 => ?_)
            have o158 := h157.oW
            refine Ok.e (gR_at o158 rfl) ?_
            refine Ok.b (pX2_addRow h157 (h157.strs ⟨by decide, by decide⟩) (rk9) (by omega)) (fun x8 h159 => ?_)
            exact Ok.s h159
          · have o160 := h153.oE' hke (by omega)
            refine Ok.e (gR_at o160 rfl) ?_
            refine Ok.b (h153.ldE (j := 4) hke (by decide)) (fun _ _ => ?_)
            refine Ok.i (fun c161 => ?_) (fun c161 => ?_)
            · exact Ok.s h153
            · unfold jX2_makeRows_111
              refine Ok.e (gR_at o160 rfl) ?_
              refine Ok.b (h153.ldE (j := 3) hke (by decide)) (fun _ _ => ?_)
              refine Ok.e (gR_at o160 rfl) ?_
              refine Ok.b (h153.ldE (j := 4) hke (by decide)) (fun _ _ => ?_)
              refine Ok.b (pX2_makeTime h153 ) (fun x5 h162 => ?_)
              have o163 := h162.oW
              refine Ok.e (gR_at o163 rfl) ?_
              refine Ok.b (pX2_addRow h162 (h162.strs ⟨by decide, by decide⟩) (rk9) (by omega)) (fun x8 h164 => ?_)
              exact Ok.s h164
        · unfold jX2_makeRows_90
          refine Ok.b (pX3_isFitting h2 (hke) (j := 3) (by decide)) (fun x1 h165 => ?_)
          refine Ok.i (fun c166 => ?_) (fun c166 => ?_)
          · unfold jX2_makeRows_111
            refine Ok.e (gR_at o119 rfl) ?_
            refine Ok.b (h2.ldE (j := 3) hke (by decide)) (fun _ _ => ?_)
            refine Ok.e (gR_at o119 rfl) ?_
            refine Ok.b (h2.ldE (j := 4) hke (by decide)) (fun _ _ => ?_)
            refine Ok.b (pX2_makeTime h2 ) (fun x5 h167 => ?_)
            have o168 := h167.oW
            refine Ok.e (gR_at o168 rfl) ?_
            refine Ok.b (pX2_addRow h167 (h167.strs ⟨by decide, by decide⟩) (rk9) (by omega)) (fun x8 h169 => ?_)
            exact Ok.s h169
          · refine Ok.e (gR_at o119 rfl) ?_
            refine Ok.b (h2.ldE (j := 4) hke (by decide)) (fun _ _ => ?_)
            refine Ok.i (fun c170 => ?_) (fun c170 => ?_)
            · exact Ok.s h2
            · unfold jX2_makeRows_111
              refine Ok.e (gR_at o119 rfl) ?_
              refine Ok.b (h2.ldE (j := 3) hke (by decide)) (fun _ _ => ?_)
              refine Ok.e (gR_at o119 rfl) ?_
              refine Ok.b (h2.ldE (j := 4) hke (by decide)) (fun _ _ => ?_)
              refine Ok.b (pX2_makeTime h2 ) (fun x5 h171 => ?_)
              have o172 := h171.oW
              refine Ok.e (gR_at o172 rfl) ?_
              refine Ok.b (pX2_addRow h171 (h171.strs ⟨by decide, by decide⟩) (rk9) (by omega)) (fun x8 h173 => ?_)
              exact Ok.s h173
    · refine Ok.e (gR_at o119 rfl) ?_
      refine Ok.b (pX2_addRow h2 (h2.strs ⟨by decide, by decide⟩) ((rkE3 hke)) (by omega)) (fun x6 h174 => ?_)
      unfold jX2_makeRows_46
      refine Ok.b (pX3_isFitting h174 (hke) (j := 1) (by decide)) (fun x1 h175 => ?_)
      refine Ok.i (fun c176 => ?_) (fun c176 => ?_)
      · have o177 := h174.oE' hke (by omega)
        refine Ok.e (gR_at o177 rfl) ?_
        refine Ok.b (h174.ldE (j := 1) hke (by decide)) (fun _ _ => ?_)
        refine Ok.b (pX2_addNumberRow h174 (h174.strs ⟨by decide, by decide⟩)) (fun x6 h178 => ?_)
        unfold jX2_makeRows_68
        refine Ok.b (pX3_isFitting h178 (hke) (j := 2) (by decide)) (fun x1 h179 => ?_)
        refine Ok.i (fun c180 => ?_) (fun c180 => ?_)
        · have o181 := h178.oE' hke (by omega)
          refine Ok.e (gR_at o181 rfl) ?_
          refine Ok.b (h178.ldE (j := 2) hke (by decide)) (fun _ _ => ?_)
          refine Ok.b (pX2_addNumberRow h178 (h178.strs ⟨by decide, by decide⟩)) (fun x6 h182 => ?_)
          unfold jX2_makeRows_90
          refine Ok.b (pX3_isFitting h182 (hke) (j := 3) (by decide)) (fun x1 h183 => ?_)
          refine Ok.i (fun c184 => ?_) (fun c184 => ?_)
          · unfold jX2_makeRows_111
            have o185 := h182.oE' hke (by omega)
            refine Ok.e (gR_at o185 rfl) ?_
            refine Ok.b (h182.ldE (j := 3) hke (by decide)) (fun _ _ => ?_)
            refine Ok.e (gR_at o185 rfl) ?_
            refine Ok.b (h182.ldE (j := 4) hke (by decide)) (fun _ _ => ?_)
            refine Ok.b (pX2_makeTime h182 ) (fun x5 h186 => ?_)
            have o187 := h186.oW
            refine Ok.e (gR_at o187 rfl) ?_
            refine Ok.b (pX2_addRow h186 (h186.strs ⟨by decide, by decide⟩) (rk9) (by omega)) (fun x8 h188 => ?_)
            exact Ok.s h188
          · have o189 := h182.oE' hke (by omega)
            refine Ok.e (gR_at o189 rfl) ?_
            refine Ok.b (h182.ldE (j := 4) hke (by decide)) (fun _ _ => ?_)
            refine Ok.i (fun c190 => ?_) (fun c190 => ?_)
            · exact Ok.s h182
            · unfold jX2_makeRows_111
              refine Ok.e (gR_at o189 rfl) ?_
              refine Ok.b (h182.ldE (j := 3) hke (by decide)) (fun _ _ => ?_)
              refine Ok.e (gR_at o189 rfl) ?_
              refine Ok.b (h182.ldE (j := 4) hke (by decide)) (fun _ _ => ?_)
              refine Ok.b (pX2_makeTime h182 ) (fun x5 h191 => ?_)
              have o192 := h191.oW
              refine Ok.e (gR_at o192 rfl) ?_
              refine Ok.b (pX2_addRow h191 (h191.strs ⟨by decide, by decide⟩) (rk9) (by omega)) (fun x8 h193 => ?_)
              exact Ok.s h193
        · unfold jX2_makeRows_90
          refine Ok.b (pX3_isFitting h178 (hke) (j := 3) (by decide)) (fun x1 h194 => ?_)
          refine Ok.i (fun c195 => ?_) (fun c195 => ?_)
          · unfold jX2_makeRows_111
            have o196 := h178.oE' hke (by omega)
            refine Ok.e (gR_at o196 rfl) ?_
            refine Ok.b (h178.ldE (j := 3) hke (by decide)) (fun _ _ => ?_)
            refine Ok.e (gR_at o196 rfl) ?_
            refine Ok.b (h178.ldE (j := 4) hke (by decide)) (fun _ _ => ?_)
            refine Ok.b (pX2_makeTime h178 ) (fun x5 h197 => ?_)
            have o198 := h197.oW
            refine Ok.e (gR_at o198 rfl) ?_
            refine Ok.b (pX2_addRow h197 (h197.strs ⟨by decide, by decide⟩) (rk9) (by omega)) (fun x8 h199 => ?_)
            exact Ok.s h199
          · have o200 := h178.oE' hke (by omega)
            refine Ok.e (gR_at o200 rfl) ?_
            refine Ok.b (h178.ldE (j := 4) hke (by decide)) (fun _ _ => ?_)
            refine Ok.i (fun c201 => ?_) (fun c201 => ?_)
            · exact Ok.s h178
            · unfold jX2_makeRows_111
              refine Ok.e (gR_at o200 rfl) ?_
              refine Ok.b (h178.ldE (j := 3) hke (by decide)) (fun _ _ => ?_)
              refine Ok.e (gR_at o200 rfl) ?_
              refine Ok.b (h178.ldE (j := 4) hke (by decide)) (fun _ _ => ?_)
              refine Ok.b (pX2_makeTime h178 ) (fun x5 h202 => ?_)
              have o203 := h202.oW
              refine Ok.e (gR_at o203 rfl) ?_
              refine Ok.b (pX2_addRow h202 (h202.strs ⟨by decide, by decide⟩) (rk9) (by omega)) (fun x8 h204 => ?_)
              exact Ok.s h204
      · unfold jX2_makeRows_68
        refine Ok.b (pX3_isFitting h174 (hke) (j := 2) (by decide)) (fun x1 h205 => ?_)
        refine Ok.i (fun c206 => ?_) (fun c206 => ?_)
        · have o207 := h174.oE' hke (by omega)
          refine Ok.e (gR_at o207 rfl) ?_
          refine Ok.b (h174.ldE (j := 2) hke (by decide)) (fun _ _ => ?_)
          refine Ok.b (pX2_addNumberRow h174 (h174.strs ⟨by decide, by decide⟩)) (fun x6 h208 => ?_)
          unfold jX2_makeRows_90
          refine Ok.b (pX3_isFitting h208 (hke) (j := 3) (by decide)) (fun x1 h209 => ?_)
          refine Ok.i (fun c210 => ?_) (fun c210 => ?_)
          · unfold jX2_makeRows_111
            have o211 := h208.oE' hke (by omega)
            refine Ok.e (gR_at o211 rfl) ?_
            refine Ok.b (h208.ldE (j := 3) hke (by decide)) (fun _ _ => ?_)
            refine Ok.e (gR_at o211 rfl) ?_
            refine Ok.b (h208.ldE (j := 4) hke (by decide)) (fun _ _ => ?_)
            refine Ok.b (pX2_makeTime h208 ) (fun x5 h212 => ?_)
            have o213 := h212.oW
            refine Ok.e (gR_at o213 rfl) ?_
            refine Ok.b (pX2_addRow h212 (h212.strs ⟨by decide, by decide⟩) (rk9) (by omega)) (fun x8 h214 => ?_)
            exact Ok.s h214
          · have o215 := h208.oE' hke (by omega)
            refine Ok.e (gR_at o215 rfl) ?_
            refine Ok.b (h208.ldE (j := 4) hke (by decide)) (fun _ _ => ?_)
            refine Ok.i (fun c216 => ?_) (fun c216 => ?_)
            · exact Ok.s h208
            · unfold jX2_makeRows_111
              refine Ok.e (gR_at o215 rfl) ?_
              refine Ok.b (h208.ldE (j := 3) hke (by decide)) (fun _ _ => ?_)
              refine Ok.e (gR_at o215 rfl) ?_
              refine Ok.b (h208.ldE (j := 4) hke (by decide)) (fun _ _ => ?_)
              refine Ok.b (pX2_makeTime h208 ) (fun x5 h217 => ?_)
              have o218 := h217.oW
              refine Ok.e (gR_at o218 rfl) ?_
              refine Ok.b (pX2_addRow h217 (h217.strs ⟨by decide, by decide⟩) (rk9) (by omega)) (fun x8 h219 => ?_)
              exact Ok.s h219
        · unfold jX2_makeRows_90
          refine Ok.b (pX3_isFitting h174 (hke) (j := 3) (by decide)) (fun x1 h220 => ?_)
          refine Ok.i (fun c221 => ?_) (fun c221 => ?_)
          · unfold jX2_makeRows_111
            have o222 := h174.oE' hke (by omega)
            refine Ok.e (gR_at o222 rfl) ?_
            refine Ok.b (h174.ldE (j := 3) hke (by decide)) (fun _ _ => ?_)
            refine Ok.e (gR_at o222 rfl) ?_
            refine Ok.b (h174.ldE (j := 4) hke (by decide)) (fun _ _ => ?_)
            refine Ok.b (pX2_makeTime h174 ) (fun x5 h223 => ?_)
            have o224 := h223.oW
            refine Ok.e (gR_at o224 rfl) ?_
            refine Ok.b (pX2_addRow h223 (h223.strs ⟨by decide, by decide⟩) (rk9) (by omega)) (fun x8 h225 => ?_)
            exact Ok.s h225
          · have o226 := h174.oE' hke (by omega)
            refine Ok.e (gR_at o226 rfl) ?_
            refine Ok.b (h174.ldE (j := 4) hke (by decide)) (fun _ _ => ?_)
            refine Ok.i (fun c227 => ?_) (fun c227 => ?_)
            · exact Ok.s h174
            · unfold jX2_makeRows_111
              refine Ok.e (gR_at o226 rfl) ?_
              refine Ok.b (h174.ldE (j := 3) hke (by decide)) (fun _ _ => ?_)
              refine Ok.e (gR_at o226 rfl) ?_
              refine Ok.b (h174.ldE (j := 4) hke (by decide)) (fun _ _ => ?_)
              refine Ok.b (pX2_makeTime h174 ) (fun x5 h228 => ?_)
              have o229 := h228.oW
              refine Ok.e (gR_at o229 rfl) ?_
              refine Ok.b (pX2_addRow h228 (h228.strs ⟨by decide, by decide⟩) (rk9) (by omega)) (fun x8 h230 => ?_)
              exact Ok.s h230
