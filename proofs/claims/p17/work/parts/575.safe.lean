/-! PURE: each method of the class answers, and keeps the shape of its cells (written by sgen.py) -/
theorem pX2_longLength {v : Nat → Nat} {G0 G : gH} {b : Nat} {O : Nat → Nat → Int32} {P : Nat → Nat → Int64} {lo hi : Nat}  (h0 : Rch v G0 b O P lo hi G) {kr : Nat} (hkr : rkB kr = true) : Ok (fun _ => True) (fX2_longLength v G (b + kr)) := by
  have hrlkr := rkB_lt hkr
  unfold fX2_longLength
  refine Ok.b (h0.count hkr) (fun x1 hu1 => ?_)
  refine Ok.i (fun c2 => ?_) (fun c2 => ?_)
  · exact Ok.s trivial
  · refine Ok.b (h0.count hkr) (fun x4 hu3 => ?_)
    refine Ok.b (pX10_filled h0 ) (fun x6 h4 => ?_)
    exact Ok.s trivial
theorem pX2_lengthOf {v : Nat → Nat} {G0 G : gH} {b : Nat} {O : Nat → Nat → Int32} {P : Nat → Nat → Int64} {a2 : Int32} (h0 : Rch v G0 b O P 3 11 G) {ke : Nat} (hke : ekB ke = true) : Ok (fun r => Rch v G0 b O P 3 11 r.2) (fX2_lengthOf v G (b + 6) (b + ke) a2) := by
  have ze := ekB_iff.mp hke
  unfold fX2_lengthOf
  have o1 := h0.oW
  refine Ok.e (gOb_at o1) ?_
  have o2 := h0.oE' hke (by omega)
  refine Ok.e (gI_at o2 rfl) ?_
  refine Ok.b (pX10_filled h0 ) (fun x2 h3 => ?_)
  refine Ok.e rfl ?_
  refine Ok.i (fun c4 => ?_) (fun c4 => ?_)
  · refine Ok.b (pX2_makeRows h0 (hke)) (fun x6 h5 => ?_)
    have o6 := h5.oW
    refine Ok.e (gR_at o6 rfl) ?_
    refine Ok.b (h5.count rk7) (fun x9 hu7 => ?_)
    refine Ok.i (fun c8 => ?_) (fun c8 => ?_)
    · unfold jX2_lengthOf_51
      refine Ok.e rfl ?_
      unfold jX2_lengthOf_53
      refine Ok.i (fun c9 => ?_) (fun c9 => ?_)
      · have o10 := h5.oE' hke (by omega)
        refine Ok.e (gR_at o10 rfl) ?_
        refine Ok.b (pX2_longLength h5 ((rkE3 hke))) (fun x3 h11 => ?_)
        refine Ok.e (gR_at o10 rfl) ?_
        refine Ok.b (pX2_longLength h5 ((rkE1 hke))) (fun x6 h12 => ?_)
        refine Ok.e rfl ?_
        exact Ok.s h5
      · exact Ok.s h5
    · refine Ok.e (gR_at o6 rfl) ?_
      refine Ok.b (h5.count rk7) (fun x13 hu13 => ?_)
      refine Ok.b (pX10_filled h5 ) (fun x15 h14 => ?_)
      unfold jX2_lengthOf_51
      refine Ok.e rfl ?_
      unfold jX2_lengthOf_53
      refine Ok.i (fun c15 => ?_) (fun c15 => ?_)
      · have o16 := h5.oE' hke (by omega)
        refine Ok.e (gR_at o16 rfl) ?_
        refine Ok.b (pX2_longLength h5 ((rkE3 hke))) (fun x3 h17 => ?_)
        refine Ok.e (gR_at o16 rfl) ?_
        refine Ok.b (pX2_longLength h5 ((rkE1 hke))) (fun x6 h18 => ?_)
        refine Ok.e rfl ?_
        exact Ok.s h5
      · exact Ok.s h5
  · unfold jX2_lengthOf_53
    refine Ok.i (fun c19 => ?_) (fun c19 => ?_)
    · refine Ok.e (gR_at o2 rfl) ?_
      refine Ok.b (pX2_longLength h0 ((rkE3 hke))) (fun x3 h20 => ?_)
      refine Ok.e (gR_at o2 rfl) ?_
      refine Ok.b (pX2_longLength h0 ((rkE1 hke))) (fun x6 h21 => ?_)
      refine Ok.e rfl ?_
      exact Ok.s h0
    · exact Ok.s h0
theorem pX2_setField {v : Nat → Nat} {G0 G : gH} {b : Nat} {O : Nat → Nat → Int32} {P : Nat → Nat → Int64} {a1 : Int32} {a2 : Int32} {a3 : Int64} (h0 : Rch v G0 b O P 3 11 G) : Ok (Rch v G0 b O P 3 11) (fX2_setField v G (b + 6) a1 a2 a3) := by
  unfold fX2_setField
  have o1 := h0.oW
  refine Ok.e (gOb_at o1) ?_
  refine Ok.e (gR_at o1 rfl) ?_
  refine Ok.b (h0.rop rk3 (by omega) (s_setOctal (h0.rs rk3) _ _ _)) (fun x2 h2 => ?_)
  exact Ok.s h2
theorem pX2_beginHead {v : Nat → Nat} {G0 G : gH} {b : Nat} {O : Nat → Nat → Int32} {P : Nat → Nat → Int64} {a1 : Int32} {a2 : Int64} {a3 : Int32} {a4 : Int32} (h0 : Rch v G0 b O P 3 11 G) : Ok (fun r => Rch v G0 b O P 3 11 r.2) (fX2_beginHead v G (b + 6) a1 a2 a3 a4) := by
  unfold fX2_beginHead
  have o1 := h0.oW
  refine Ok.e (gOb_at o1) ?_
  refine Ok.e (gR_at o1 rfl) ?_
  refine Ok.b (h0.count rk3) (fun x2 hu2 => ?_)
  refine Ok.e (gR_at o1 rfl) ?_
  refine Ok.b (h0.rop rk3 (by omega) (s_addZeros (h0.rs rk3) _)) (fun x5 h3 => ?_)
  refine Ok.b (pX2_setField h3 ) (fun x7 h4 => ?_)
  refine Ok.b (pX2_setField h4 ) (fun x9 h5 => ?_)
  have o6 := h5.oW
  refine Ok.e (gR_at o6 rfl) ?_
  refine Ok.b (h5.rop rk3 (by omega) (s_set (h5.rs rk3) _ _)) (fun x12 h7 => ?_)
  refine Ok.i (fun c8 => ?_) (fun c8 => ?_)
  · have o9 := h7.oW
    refine Ok.e (gR_at o9 rfl) ?_
    refine Ok.b (h7.rop rk3 (by omega) (s_setAll (h7.rs rk3) _ (tab2 h7) (by decide) (tabn2 h7))) (fun x20 h10 => ?_)
    exact Ok.s h10
  · refine Ok.i (fun c11 => ?_) (fun c11 => ?_)
    · exact Ok.s h7
    · have o12 := h7.oW
      refine Ok.e (gR_at o12 rfl) ?_
      refine Ok.b (h7.rop rk3 (by omega) (s_setAll (h7.rs rk3) _ (tab3 h7) (by decide) (tabn3 h7))) (fun x17 h13 => ?_)
      exact Ok.s h13
theorem pX2_seal {v : Nat → Nat} {G0 G : gH} {b : Nat} {O : Nat → Nat → Int32} {P : Nat → Nat → Int64} {a1 : Int32} (h0 : Rch v G0 b O P 3 11 G) : Ok (fun r => Rch v G0 b O P 3 11 r.2) (fX2_seal v G (b + 6) a1) := by
  unfold fX2_seal
  have o1 := h0.oW
  refine Ok.e (gOb_at o1) ?_
  refine Ok.e (gR_at o1 rfl) ?_
  refine Ok.b (pX10_sumOf h0 (rk3)) (fun x2 h2 => ?_)
  refine Ok.e (gR_at o1 rfl) ?_
  refine Ok.b (h0.rop rk3 (by omega) (s_setOctal (h0.rs rk3) _ _ _)) (fun x5 h3 => ?_)
  have o4 := h3.oW
  refine Ok.e (gR_at o4 rfl) ?_
  refine Ok.b (h3.rop rk3 (by omega) (s_set (h3.rs rk3) _ _)) (fun x8 h5 => ?_)
  have o6 := h5.oW
  refine Ok.e (gR_at o6 rfl) ?_
  refine Ok.b (h5.rop rk3 (by omega) (s_set (h5.rs rk3) _ _)) (fun x11 h7 => ?_)
  exact Ok.s h7
theorem pX2_appendAheadHead {v : Nat → Nat} {G0 G : gH} {b : Nat} {O : Nat → Nat → Int32} {P : Nat → Nat → Int64} {a1 : Int32} {a3 : Int32} {a4 : Int32} (h0 : Rch v G0 b O P 3 11 G) {a2 : Nat} (hs : StrLo b G0 a2) : Ok (Rch v G0 b O P 3 11) (fX2_appendAheadHead v G (b + 6) a1 a2 a3 a4) := by
  unfold fX2_appendAheadHead
  have o1 := h0.oW
  refine Ok.e (gOb_at o1) ?_
  refine Ok.b (pX2_beginHead h0 ) (fun x1 h2 => ?_)
  have o3 := h2.oW
  refine Ok.e (gR_at o3 rfl) ?_
  refine Ok.b (h2.rop rk3 (by omega) (s_setText (h2.rs rk3) _ (h2.str hs) (by omega))) (fun x4 h4 => ?_)
  refine Ok.b (pX2_setField h4 ) (fun x6 h5 => ?_)
  refine Ok.b (pX2_setField h5 ) (fun x8 h6 => ?_)
  refine Ok.b (pX2_setField h6 ) (fun x10 h7 => ?_)
  refine Ok.b (pX2_seal h7 ) (fun x12 h8 => ?_)
  exact Ok.s h8
theorem pX2_fillBlock {v : Nat → Nat} {G0 G : gH} {b : Nat} {O : Nat → Nat → Int32} {P : Nat → Nat → Int64}  (h0 : Rch v G0 b O P 3 11 G) : Ok (Rch v G0 b O P 3 11) (fX2_fillBlock v G (b + 6)) := by
  unfold fX2_fillBlock
  have o1 := h0.oW
  refine Ok.e (gOb_at o1) ?_
  refine Ok.e (gR_at o1 rfl) ?_
  refine Ok.e (gR_at o1 rfl) ?_
  refine Ok.b (h0.count rk3) (fun x3 hu2 => ?_)
  refine Ok.b (pX10_filled h0 ) (fun x5 h3 => ?_)
  refine Ok.e (gR_at o1 rfl) ?_
  refine Ok.b (h0.count rk3) (fun x8 hu4 => ?_)
  refine Ok.b (h0.rop rk3 (by omega) (s_addZeros (h0.rs rk3) _)) (fun x10 h5 => ?_)
  exact Ok.s h5
theorem pX2_appendRows {v : Nat → Nat} {G0 G : gH} {b : Nat} {O : Nat → Nat → Int32} {P : Nat → Nat → Int64}  (h0 : Rch v G0 b O P 3 11 G) {ke : Nat} (hke : ekB ke = true) : Ok (Rch v G0 b O P 3 11) (fX2_appendRows v G (b + 6) (b + ke)) := by
  have ze := ekB_iff.mp hke
  unfold fX2_appendRows
  have o1 := h0.oW
  refine Ok.e (gOb_at o1) ?_
  refine Ok.b (pX2_makeRows h0 (hke)) (fun x1 h2 => ?_)
  have o3 := h2.oW
  refine Ok.e (gR_at o3 rfl) ?_
  refine Ok.b (h2.count rk7) (fun x4 hu4 => ?_)
  refine Ok.i (fun c5 => ?_) (fun c5 => ?_)
  · exact Ok.s h2
  · refine Ok.e (gR_at o3 rfl) ?_
    refine Ok.b (h2.count rk7) (fun x8 hu6 => ?_)
    refine Ok.b (pX2_appendAheadHead h2 (h2.strs ⟨by decide, by decide⟩)) (fun x10 h7 => ?_)
    have o8 := h7.oW
    refine Ok.e (gR_at o8 rfl) ?_
    refine Ok.e (gR_at o8 rfl) ?_
    refine Ok.e (gR_at o8 rfl) ?_
    refine Ok.b (h7.count rk7) (fun x15 hu9 => ?_)
    refine Ok.b (h7.rop rk3 (by omega) (s_addPart (h7.rs rk3) (h7.rs rk7) (by omega) _ _)) (fun x17 h10 => ?_)
    refine Ok.b (pX2_fillBlock h10 ) (fun x19 h11 => ?_)
    exact Ok.s h11
theorem pX2_appendLong {v : Nat → Nat} {G0 G : gH} {b : Nat} {O : Nat → Nat → Int32} {P : Nat → Nat → Int64} {a1 : Int32} (h0 : Rch v G0 b O P 3 11 G) {kr : Nat} (hkr : rkB kr = true) (hne : kr ≠ 3 ∧ kr ≠ 7) : Ok (Rch v G0 b O P 3 11) (fX2_appendLong v G (b + 6) a1 (b + kr)) := by
  have hrlkr := rkB_lt hkr
  unfold fX2_appendLong
  have o1 := h0.oW
  refine Ok.e (gOb_at o1) ?_
  refine Ok.b (h0.count hkr) (fun x1 hu2 => ?_)
  refine Ok.i (fun c3 => ?_) (fun c3 => ?_)
  · exact Ok.s h0
  · refine Ok.b (h0.count hkr) (fun x4 hu4 => ?_)
    refine Ok.b (pX2_appendAheadHead h0 (h0.strs ⟨by decide, by decide⟩)) (fun x6 h5 => ?_)
    have o6 := h5.oW
    refine Ok.e (gR_at o6 rfl) ?_
    refine Ok.b (h5.count hkr) (fun x9 hu7 => ?_)
    refine Ok.b (h5.rop rk3 (by omega) (s_addPart (h5.rs rk3) (h5.rs hkr) (by omega) _ _)) (fun x11 h8 => ?_)
    have o9 := h8.oW
    refine Ok.e (gR_at o9 rfl) ?_
    refine Ok.b (h8.rop rk3 (by omega) (s_add (h8.rs rk3) _)) (fun x14 h10 => ?_)
    refine Ok.b (pX2_fillBlock h10 ) (fun x16 h11 => ?_)
    exact Ok.s h11
theorem pX2_setNames {v : Nat → Nat} {G0 G : gH} {b : Nat} {O : Nat → Nat → Int32} {P : Nat → Nat → Int64} {a1 : Int32} {a3 : Int32} (h0 : Rch v G0 b O P 3 11 G) {ke : Nat} (hke : ekB ke = true) : Ok (Rch v G0 b O P 3 11) (fX2_setNames v G (b + 6) a1 (b + ke) a3) := by
  have ze := ekB_iff.mp hke
  unfold fX2_setNames
  have o1 := h0.oW
  refine Ok.e (gOb_at o1) ?_
  have o2 := h0.oE' hke (by omega)
  refine Ok.e (gR_at o2 rfl) ?_
  refine Ok.b (h0.count (rkE1 hke)) (fun x2 hu3 => ?_)
  refine Ok.i (fun c4 => ?_) (fun c4 => ?_)
  · unfold jX2_setNames_30
    unfold jX2_setNames_31
    refine Ok.i (fun c5 => ?_) (fun c5 => ?_)
    · unfold jX2_setNames_46
      refine Ok.i (fun c6 => ?_) (fun c6 => ?_)
      · refine Ok.e (gR_at o1 rfl) ?_
        refine Ok.e (gR_at o2 rfl) ?_
        refine Ok.e rfl ?_
        refine Ok.b (h0.rop rk3 (by omega) (s_setPart (h0.rs rk3) (h0.rs (rkE1 hke)) (by omega) _ _ _)) (fun x5 h7 => ?_)
        unfold jX2_setNames_117
        have o8 := h7.oW
        refine Ok.e (gR_at o8 rfl) ?_
        have o9 := h7.oE' hke (by omega)
        refine Ok.e (gR_at o9 rfl) ?_
        refine Ok.e (gR_at o9 rfl) ?_
        refine Ok.b (h7.count (rkE3 hke)) (fun x4 hu10 => ?_)
        refine Ok.e rfl ?_
        refine Ok.b (h7.rop rk3 (by omega) (s_setPart (h7.rs rk3) (h7.rs (rkE3 hke)) (by omega) _ _ _)) (fun x7 h11 => ?_)
        exact Ok.s h11
      · refine Ok.e (gR_at o1 rfl) ?_
        refine Ok.e (gR_at o2 rfl) ?_
        refine Ok.b (h0.rop rk3 (by omega) (s_setPart (h0.rs rk3) (h0.rs (rkE1 hke)) (by omega) _ _ _)) (fun x9 h12 => ?_)
        have o13 := h12.oW
        refine Ok.e (gR_at o13 rfl) ?_
        have o14 := h12.oE' hke (by omega)
        refine Ok.e (gR_at o14 rfl) ?_
        refine Ok.b (h12.rop rk3 (by omega) (s_setPart (h12.rs rk3) (h12.rs (rkE1 hke)) (by omega) _ _ _)) (fun x13 h15 => ?_)
        unfold jX2_setNames_117
        have o16 := h15.oW
        refine Ok.e (gR_at o16 rfl) ?_
        have o17 := h15.oE' hke (by omega)
        refine Ok.e (gR_at o17 rfl) ?_
        refine Ok.e (gR_at o17 rfl) ?_
        refine Ok.b (h15.count (rkE3 hke)) (fun x4 hu18 => ?_)
        refine Ok.e rfl ?_
        refine Ok.b (h15.rop rk3 (by omega) (s_setPart (h15.rs rk3) (h15.rs (rkE3 hke)) (by omega) _ _ _)) (fun x7 h19 => ?_)
        exact Ok.s h19
    · refine Ok.b (pX3_split h0 (hke)) (fun x2 h20 => ?_)
      unfold jX2_setNames_46
      refine Ok.i (fun c21 => ?_) (fun c21 => ?_)
      · refine Ok.e (gR_at o1 rfl) ?_
        refine Ok.e (gR_at o2 rfl) ?_
        refine Ok.e rfl ?_
        refine Ok.b (h0.rop rk3 (by omega) (s_setPart (h0.rs rk3) (h0.rs (rkE1 hke)) (by omega) _ _ _)) (fun x5 h22 => ?_)
        unfold jX2_setNames_117
        have o23 := h22.oW
        refine Ok.e (gR_at o23 rfl) ?_
        have o24 := h22.oE' hke (by omega)
        refine Ok.e (gR_at o24 rfl) ?_
        refine Ok.e (gR_at o24 rfl) ?_
        refine Ok.b (h22.count (rkE3 hke)) (fun x4 hu25 => ?_)
        refine Ok.e rfl ?_
        refine Ok.b (h22.rop rk3 (by omega) (s_setPart (h22.rs rk3) (h22.rs (rkE3 hke)) (by omega) _ _ _)) (fun x7 h26 => ?_)
        exact Ok.s h26
      · refine Ok.e (gR_at o1 rfl) ?_
        refine Ok.e (gR_at o2 rfl) ?_
        refine Ok.b (h0.rop rk3 (by omega) (s_setPart (h0.rs rk3) (h0.rs (rkE1 hke)) (by omega) _ _ _)) (fun x9 h27 => ?_)
        have o28 := h27.oW
        refine Ok.e (gR_at o28 rfl) ?_
        have o29 := h27.oE' hke (by omega)
        refine Ok.e (gR_at o29 rfl) ?_
        refine Ok.b (h27.rop rk3 (by omega) (s_setPart (h27.rs rk3) (h27.rs (rkE1 hke)) (by omega) _ _ _)) (fun x13 h30 => ?_)
        unfold jX2_setNames_117
        have o31 := h30.oW
        refine Ok.e (gR_at o31 rfl) ?_
        have o32 := h30.oE' hke (by omega)
        refine Ok.e (gR_at o32 rfl) ?_
        refine Ok.e (gR_at o32 rfl) ?_
        refine Ok.b (h30.count (rkE3 hke)) (fun x4 hu33 => ?_)
        refine Ok.e rfl ?_
        refine Ok.b (h30.rop rk3 (by omega) (s_setPart (h30.rs rk3) (h30.rs (rkE3 hke)) (by omega) _ _ _)) (fun x7 h34 => ?_)
        exact Ok.s h34
  · refine Ok.i (fun c35 => ?_) (fun c35 => ?_)
    · unfold jX2_setNames_26
      unfold jX2_setNames_31
      refine Ok.i (fun c36 => ?_) (fun c36 => ?_)
      · unfold jX2_setNames_46
        refine Ok.i (fun c37 => ?_) (fun c37 => ?_)
        · refine Ok.e (gR_at o1 rfl) ?_
          refine Ok.e (gR_at o2 rfl) ?_
          refine Ok.e rfl ?_
          refine Ok.b (h0.rop rk3 (by omega) (s_setPart (h0.rs rk3) (h0.rs (rkE1 hke)) (by omega) _ _ _)) (fun x5 h38 => ?_)
          unfold jX2_setNames_117
          have o39 := h38.oW
          refine Ok.e (gR_at o39 rfl) ?_
          have o40 := h38.oE' hke (by omega)
          refine Ok.e (gR_at o40 rfl) ?_
          refine Ok.e (gR_at o40 rfl) ?_
          refine Ok.b (h38.count (rkE3 hke)) (fun x4 hu41 => ?_)
          refine Ok.e rfl ?_
          refine Ok.b (h38.rop rk3 (by omega) (s_setPart (h38.rs rk3) (h38.rs (rkE3 hke)) (by omega) _ _ _)) (fun x7 h42 => ?_)
          exact Ok.s h42
        · refine Ok.e (gR_at o1 rfl) ?_
          refine Ok.e (gR_at o2 rfl) ?_
          refine Ok.b (h0.rop rk3 (by omega) (s_setPart (h0.rs rk3) (h0.rs (rkE1 hke)) (by omega) _ _ _)) (fun x9 h43 => ?_)
          have o44 := h43.oW
          refine Ok.e (gR_at o44 rfl) ?_
          have o45 := h43.oE' hke (by omega)
          refine Ok.e (gR_at o45 rfl) ?_
          refine Ok.b (h43.rop rk3 (by omega) (s_setPart (h43.rs rk3) (h43.rs (rkE1 hke)) (by omega) _ _ _)) (fun x13 h46 => ?_)
          unfold jX2_setNames_117
          have o47 := h46.oW
          refine Ok.e (gR_at o47 rfl) ?_
          have o48 := h46.oE' hke (by omega)
          refine Ok.e (gR_at o48 rfl) ?_
          refine Ok.e (gR_at o48 rfl) ?_
          refine Ok.b (h46.count (rkE3 hke)) (fun x4 hu49 => ?_)
          refine Ok.e rfl ?_
          refine Ok.b (h46.rop rk3 (by omega) (s_setPart (h46.rs rk3) (h46.rs (rkE3 hke)) (by omega) _ _ _)) (fun x7 h50 => ?_)
          exact Ok.s h50
      · refine Ok.b (pX3_split h0 (hke)) (fun x2 h51 => ?_)
        unfold jX2_setNames_46
        refine Ok.i (fun c52 => ?_) (fun c52 => ?_)
        · refine Ok.e (gR_at o1 rfl) ?_
          refine Ok.e (gR_at o2 rfl) ?_
          refine Ok.e rfl ?_
          refine Ok.b (h0.rop rk3 (by omega) (s_setPart (h0.rs rk3) (h0.rs (rkE1 hke)) (by omega) _ _ _)) (fun x5 h53 => ?_)
          unfold jX2_setNames_117
          have o54 := h53.oW
          refine Ok.e (gR_at o54 rfl) ?_
          have o55 := h53.oE' hke (by omega)
          refine Ok.e (gR_at o55 rfl) ?_
          refine Ok.e (gR_at o55 rfl) ?_
          refine Ok.b (h53.count (rkE3 hke)) (fun x4 hu56 => ?_)
          refine Ok.e rfl ?_
          refine Ok.b (h53.rop rk3 (by omega) (s_setPart (h53.rs rk3) (h53.rs (rkE3 hke)) (by omega) _ _ _)) (fun x7 h57 => ?_)
          exact Ok.s h57
        · refine Ok.e (gR_at o1 rfl) ?_
          refine Ok.e (gR_at o2 rfl) ?_
          refine Ok.b (h0.rop rk3 (by omega) (s_setPart (h0.rs rk3) (h0.rs (rkE1 hke)) (by omega) _ _ _)) (fun x9 h58 => ?_)
          have o59 := h58.oW
          refine Ok.e (gR_at o59 rfl) ?_
          have o60 := h58.oE' hke (by omega)
          refine Ok.e (gR_at o60 rfl) ?_
          refine Ok.b (h58.rop rk3 (by omega) (s_setPart (h58.rs rk3) (h58.rs (rkE1 hke)) (by omega) _ _ _)) (fun x13 h61 => ?_)
          unfold jX2_setNames_117
          have o62 := h61.oW
          refine Ok.e (gR_at o62 rfl) ?_
          have o63 := h61.oE' hke (by omega)
          refine Ok.e (gR_at o63 rfl) ?_
          refine Ok.e (gR_at o63 rfl) ?_
          refine Ok.b (h61.count (rkE3 hke)) (fun x4 hu64 => ?_)
          refine Ok.e rfl ?_
          refine Ok.b (h61.rop rk3 (by omega) (s_setPart (h61.rs rk3) (h61.rs (rkE3 hke)) (by omega) _ _ _)) (fun x7 h65 => ?_)
          exact Ok.s h65
    · refine Ok.i (fun c66 => ?_) (fun c66 => ?_)
      · unfold jX2_setNames_26
        unfold jX2_setNames_31
        refine Ok.i (fun c67 => ?_) (fun c67 => ?_)
        · unfold jX2_setNames_46
          refine Ok.i (fun c68 => ?_) (fun c68 => ?_)
          · refine Ok.e (gR_at o1 rfl) ?_
            refine Ok.e (gR_at o2 rfl) ?_
            refine Ok.e rfl ?_
            refine Ok.b (h0.rop rk3 (by omega) (s_setPart (h0.rs rk3) (h0.rs (rkE1 hke)) (by omega) _ _ _)) (fun x5 h69 => ?_)
            unfold jX2_setNames_117
            have o70 := h69.oW
            refine Ok.e (gR_at o70 rfl) ?_
            have o71 := h69.oE' hke (by omega)
            refine Ok.e (gR_at o71 rfl) ?_
            refine Ok.e (gR_at o71 rfl) ?_
            refine Ok.b (h69.count (rkE3 hke)) (fun x4 hu72 => ?_)
            refine Ok.e rfl ?_
            refine Ok.b (h69.rop rk3 (by omega) (s_setPart (h69.rs rk3) (h69.rs (rkE3 hke)) (by omega) _ _ _)) (fun x7 h73 => ?_)
            exact Ok.s h73
          · refine Ok.e (gR_at o1 rfl) ?_
            refine Ok.e (gR_at o2 rfl) ?_
            refine Ok.b (h0.rop rk3 (by omega) (s_setPart (h0.rs rk3) (h0.rs (rkE1 hke)) (by omega) _ _ _)) (fun x9 h74 => ?_)
            have o75 := h74.oW
            refine Ok.e (gR_at o75 rfl) ?_
            have o76 := h74.oE' hke (by omega)
            refine Ok.e (gR_at o76 rfl) ?_
            refine Ok.b (h74.rop rk3 (by omega) (s_setPart (h74.rs rk3) (h74.rs (rkE1 hke)) (by omega) _ _ _)) (fun x13 h77 => ?_)
            unfold jX2_setNames_117
            have o78 := h77.oW
            refine Ok.e (gR_at o78 rfl) ?_
            have o79 := h77.oE' hke (by omega)
            refine Ok.e (gR_at o79 rfl) ?_
            refine Ok.e (gR_at o79 rfl) ?_
            refine Ok.b (h77.count (rkE3 hke)) (fun x4 hu80 => ?_)
            refine Ok.e rfl ?_
            refine Ok.b (h77.rop rk3 (by omega) (s_setPart (h77.rs rk3) (h77.rs (rkE3 hke)) (by omega) _ _ _)) (fun x7 h81 => ?_)
            exact Ok.s h81
        · refine Ok.b (pX3_split h0 (hke)) (fun x2 h82 => ?_)
          unfold jX2_setNames_46
          refine Ok.i (fun c83 => ?_) (fun c83 => ?_)
          · refine Ok.e (gR_at o1 rfl) ?_
            refine Ok.e (gR_at o2 rfl) ?_
            refine Ok.e rfl ?_
            refine Ok.b (h0.rop rk3 (by omega) (s_setPart (h0.rs rk3) (h0.rs (rkE1 hke)) (by omega) _ _ _)) (fun x5 h84 => ?_)
            unfold jX2_setNames_117
            have o85 := h84.oW
            refine Ok.e (gR_at o85 rfl) ?_
            have o86 := h84.oE' hke (by omega)
            refine Ok.e (gR_at o86 rfl) ?_
            refine Ok.e (gR_at o86 rfl) ?_
            refine Ok.b (h84.count (rkE3 hke)) (fun x4 hu87 => ?_)
            refine Ok.e rfl ?_
            refine Ok.b (h84.rop rk3 (by omega) (s_setPart (h84.rs rk3) (h84.rs (rkE3 hke)) (by omega) _ _ _)) (fun x7 h88 => ?_)
            exact Ok.s h88
          · refine Ok.e (gR_at o1 rfl) ?_
            refine Ok.e (gR_at o2 rfl) ?_
            refine Ok.b (h0.rop rk3 (by omega) (s_setPart (h0.rs rk3) (h0.rs (rkE1 hke)) (by omega) _ _ _)) (fun x9 h89 => ?_)
            have o90 := h89.oW
            refine Ok.e (gR_at o90 rfl) ?_
            have o91 := h89.oE' hke (by omega)
            refine Ok.e (gR_at o91 rfl) ?_
            refine Ok.b (h89.rop rk3 (by omega) (s_setPart (h89.rs rk3) (h89.rs (rkE1 hke)) (by omega) _ _ _)) (fun x13 h92 => ?_)
            unfold jX2_setNames_117
            have o93 := h92.oW
            refine Ok.e (gR_at o93 rfl) ?_
            have o94 := h92.oE' hke (by omega)
            refine Ok.e (gR_at o94 rfl) ?_
            refine Ok.e (gR_at o94 rfl) ?_
            refine Ok.b (h92.count (rkE3 hke)) (fun x4 hu95 => ?_)
            refine Ok.e rfl ?_
            refine Ok.b (h92.rop rk3 (by omega) (s_setPart (h92.rs rk3) (h92.rs (rkE3 hke)) (by omega) _ _ _)) (fun x7 h96 => ?_)
            exact Ok.s h96
      · unfold jX2_setNames_30
        unfold jX2_setNames_31
        refine Ok.i (fun c97 => ?_) (fun c97 => ?_)
        · unfold jX2_setNames_46
          refine Ok.i (fun c98 => ?_) (fun c98 => ?_)
          · refine Ok.e (gR_at o1 rfl) ?_
            refine Ok.e (gR_at o2 rfl) ?_
            refine Ok.e rfl ?_
            refine Ok.b (h0.rop rk3 (by omega) (s_setPart (h0.rs rk3) (h0.rs (rkE1 hke)) (by omega) _ _ _)) (fun x5 h99 => ?_)
            unfold jX2_setNames_117
            have o100 := h99.oW
            refine Ok.e (gR_at o100 rfl) ?_
            have o101 := h99.oE' hke (by omega)
            refine Ok.e (gR_at o101 rfl) ?_
            refine Ok.e (gR_at o101 rfl) ?_
            refine Ok.b (h99.count (rkE3 hke)) (fun x4 hu102 => ?_)
            refine Ok.e rfl ?_
            refine Ok.b (h99.rop rk3 (by omega) (s_setPart (h99.rs rk3) (h99.rs (rkE3 hke)) (by omega) _ _ _)) (fun x7 h103 => ?_)
            exact Ok.s h103
          · refine Ok.e (gR_at o1 rfl) ?_
            refine Ok.e (gR_at o2 rfl) ?_
            refine Ok.b (h0.rop rk3 (by omega) (s_setPart (h0.rs rk3) (h0.rs (rkE1 hke)) (by omega) _ _ _)) (fun x9 h104 => ?_)
            have o105 := h104.oW
            refine Ok.e (gR_at o105 rfl) ?_
            have o106 := h104.oE' hke (by omega)
            refine Ok.e (gR_at o106 rfl) ?_
            refine Ok.b (h104.rop rk3 (by omega) (s_setPart (h104.rs rk3) (h104.rs (rkE1 hke)) (by omega) _ _ _)) (fun x13 h107 => ?_)
            unfold jX2_setNames_117
            have o108 := h107.oW
            refine Ok.e (gR_at o108 rfl) ?_
            have o109 := h107.oE' hke (by omega)
            refine Ok.e (gR_at o109 rfl) ?_
            refine Ok.e (gR_at o109 rfl) ?_
            refine Ok.b (h107.count (rkE3 hke)) (fun x4 hu110 => ?_)
            refine Ok.e rfl ?_
            refine Ok.b (h107.rop rk3 (by omega) (s_setPart (h107.rs rk3) (h107.rs (rkE3 hke)) (by omega) _ _ _)) (fun x7 h111 => ?_)
            exact Ok.s h111
        · refine Ok.b (pX3_split h0 (hke)) (fun x2 h112 => ?_)
          unfold jX2_setNames_46
          refine Ok.i (fun c113 => ?_) (fun c113 => ?_)
          · refine Ok.e (gR_at o1 rfl) ?_
            refine Ok.e (gR_at o2 rfl) ?_
            refine Ok.e rfl ?_
            refine Ok.b (h0.rop rk3 (by omega) (s_setPart (h0.rs rk3) (h0.rs (rkE1 hke)) (by omega) _ _ _)) (fun x5 h114 => ?_)
            unfold jX2_setNames_117
            have o115 := h114.oW
            refine Ok.e (gR_at o115 rfl) ?_
            have o116 := h114.oE' hke (by omega)
            refine Ok.e (gR_at o116 rfl) ?_
            refine Ok.e (gR_at o116 rfl) ?_
            refine Ok.b (h114.count (rkE3 hke)) (fun x4 hu117 => ?_)
            refine Ok.e rfl ?_
            refine Ok.b (h114.rop rk3 (by omega) (s_setPart (h114.rs rk3) (h114.rs (rkE3 hke)) (by omega) _ _ _)) (fun x7 h118 => ?_)
            exact Ok.s h118
          · refine Ok.e (gR_at o1 rfl) ?_
            refine Ok.e (gR_at o2 rfl) ?_
            refine Ok.b (h0.rop rk3 (by omega) (s_setPart (h0.rs rk3) (h0.rs (rkE1 hke)) (by omega) _ _ _)) (fun x9 h119 => ?_)
            have o120 := h119.oW
            refine Ok.e (gR_at o120 rfl) ?_
            have o121 := h119.oE' hke (by omega)
            refine Ok.e (gR_at o121 rfl) ?_
            refine Ok.b (h119.rop rk3 (by omega) (s_setPart (h119.rs rk3) (h119.rs (rkE1 hke)) (by omega) _ _ _)) (fun x13 h122 => ?_)
            unfold jX2_setNames_117
            have o123 := h122.oW
            refine Ok.e (gR_at o123 rfl) ?_
            have o124 := h122.oE' hke (by omega)
            refine Ok.e (gR_at o124 rfl) ?_
            refine Ok.e (gR_at o124 rfl) ?_
            refine Ok.b (h122.count (rkE3 hke)) (fun x4 hu125 => ?_)
            refine Ok.e rfl ?_
            refine Ok.b (h122.rop rk3 (by omega) (s_setPart (h122.rs rk3) (h122.rs (rkE3 hke)) (by omega) _ _ _)) (fun x7 h126 => ?_)
            exact Ok.s h126
theorem qX2_setBy256_8 {v : Nat → Nat} {G0 G : gH} {b : Nat} {O : Nat → Nat → Int32} {P : Nat → Nat → Int64} (h0 : Rch v G0 b O P 3 11 G)  : ∀ (n : Nat) (y1 : Int32) (y3 : Int64) (y5 : Int64) (y7 : Int32), dist y7 < n → Ok (Rch v G0 b O P 3 11) (lX2_setBy256_8 v n G (b + 6) y1 y3 y5 y7) := by
  have lp : ∀ (n : Nat) (G : gH) (y1 : Int32) (y3 : Int64) (y5 : Int64) (y7 : Int32), Rch v G0 b O P 3 11 G → dist y7 < n → Ok (Rch v G0 b O P 3 11) (lX2_setBy256_8 v n G (b + 6) y1 y3 y5 y7) := by
    intro n
    induction n with
    | zero => intro G y1 y3 y5 y7 _ h; exact absurd h (Nat.not_lt_zero _)
    | succ n ih =>
      intro G y1 y3 y5 y7 h0 hm
      show Ok _ (bX2_setBy256_8 v (lX2_setBy256_8 v n) G (b + 6) y1 y3 y5 y7)
      unfold bX2_setBy256_8
      refine Ok.i (fun c1 => ?_) (fun c1 => ?_)
      · have o2 := h0.oW
        refine Ok.e (gR_at o2 rfl) ?_
        refine Ok.i (fun c3 => ?_) (fun c3 => ?_)
        · unfold jX2_setBy256_64
          refine Ok.b (h0.rop rk3 (by omega) (s_set (h0.rs rk3) _ _)) (fun x1 h4 => ?_)
          exact Ok.s h4
        · unfold jX2_setBy256_64
          refine Ok.b (h0.rop rk3 (by omega) (s_set (h0.rs rk3) _ _)) (fun x1 h5 => ?_)
          exact Ok.s h5
      · have o6 := h0.oW
        refine Ok.e (gR_at o6 rfl) ?_
        refine Ok.b (h0.rop rk3 (by omega) (s_set (h0.rs rk3) _ _)) (fun x5 h7 => ?_)
        refine Ok.e rfl ?_
        refine Ok.e rfl ?_
        exact ih _ _ _ _ _ h7  (dist_dn (n1 (by assumption)) hm)
  intro n y1 y3 y5 y7 hm
  exact lp n G y1 y3 y5 y7 h0 hm
theorem pX2_setBy256 {v : Nat → Nat} {G0 G : gH} {b : Nat} {O : Nat → Nat → Int32} {P : Nat → Nat → Int64} {a1 : Int32} {a2 : Int32} {a3 : Int64} (h0 : Rch v G0 b O P 3 11 G) : Ok (Rch v G0 b O P 3 11) (fX2_setBy256 v G (b + 6) a1 a2 a3) := by
  unfold fX2_setBy256
  have o1 := h0.oW
  refine Ok.e (gOb_at o1) ?_
  refine Ok.e rfl ?_
  exact qX2_setBy256_8 h0  gFu _ _ _ _ (dist_fu _)
theorem pX2_setNumber {v : Nat → Nat} {G0 G : gH} {b : Nat} {O : Nat → Nat → Int32} {P : Nat → Nat → Int64} {a1 : Int32} {a2 : Int32} {a3 : Int64} {a4 : Int32} (h0 : Rch v G0 b O P 3 11 G) : Ok (Rch v G0 b O P 3 11) (fX2_setNumber v G (b + 6) a1 a2 a3 a4) := by
  unfold fX2_setNumber
  have o1 := h0.oW
  refine Ok.e (gOb_at o1) ?_
  refine Ok.b (pX3_fits h0 ) (fun x1 h2 => ?_)
  refine Ok.i (fun c3 => ?_) (fun c3 => ?_)
  · refine Ok.i (fun c4 => ?_) (fun c4 => ?_)
    · refine Ok.b (pX2_setBy256 h0 ) (fun x7 h5 => ?_)
      exact Ok.s h5
    · refine Ok.b (pX2_setField h0 ) (fun x5 h6 => ?_)
      exact Ok.s h6
  · refine Ok.b (pX2_setField h0 ) (fun x9 h7 => ?_)
    exact Ok.s h7
theorem pX3_dataByte {v : Nat → Nat} {G0 G : gH} {b : Nat} {O : Nat → Nat → Int32} {P : Nat → Nat → Int64} {lo hi : Nat} {a1 : Int32} (h0 : Rch v G0 b O P lo hi G) {ke : Nat} (hke : ekB ke = true) : Ok (fun _ => True) (fX3_dataByte v G (b + ke) a1) := by
  have ze := ekB_iff.mp hke
  unfold fX3_dataByte
  obtain ⟨_, _, _, o1⟩ := h0.oE hke
  refine Ok.e (gOb_at o1) ?_
  refine Ok.e (gI_at o1 rfl) ?_
  refine Ok.e rfl ?_
  exact Ok.s trivial
theorem qX2_append_123 {v : Nat → Nat} {G0 G : gH} {b : Nat} {O : Nat → Nat → Int32} {P : Nat → Nat → Int64} (h0 : Rch v G0 b O P 3 11 G) {ke : Nat} (hke : ekB ke = true)  : ∀ (n : Nat) (y4 : Int32), gap y4 (O ke 4) < n → Ok (Rch v G0 b O P 3 11) (lX2_append_123 v n G (b + 6) (b + ke) y4) := by
  have ze := ekB_iff.mp hke
  have lp : ∀ (n : Nat) (G : gH) (y4 : Int32), Rch v G0 b O P 3 11 G → gap y4 (O ke 4) < n → Ok (Rch v G0 b O P 3 11) (lX2_append_123 v n G (b + 6) (b + ke) y4) := by
    intro n
    induction n with
    | zero => intro G y4 _ h; exact absurd h (Nat.not_lt_zero _)
    | succ n ih =>
      intro G y4 h0 hm
      show Ok _ (bX2_append_123 v (lX2_append_123 v n) G (b + 6) (b + ke) y4)
      unfold bX2_append_123
      have o1 := h0.oE' hke (by omega)
      refine Ok.e (gI_at o1 rfl) ?_
      refine Ok.i (fun c2 => ?_) (fun c2 => ?_)
      · refine Ok.b (pX2_fillBlock h0 ) (fun x3 h3 => ?_)
        exact Ok.s h3
      · have o4 := h0.oW
        refine Ok.e (gR_at o4 rfl) ?_
        refine Ok.b (pX3_dataByte h0 (hke)) (fun x6 h5 => ?_)
        refine Ok.b (h0.rop rk3 (by omega) (s_add (h0.rs rk3) _)) (fun x8 h6 => ?_)
        refine Ok.e rfl ?_
        exact ih _ _ h6  (by first | exact gap_up (by assumption) hm | exact gap_up' (by assumption) hm | exact dist_dn (by assumption) hm | exact dist_dn (n1 (by assumption)) hm | exact dist_dn (n2 (by assumption)) hm | exact gap_up' (lt40 (by assumption) (by assumption)) hm | exact gap_up' (le40 (by assumption) (by assumption)) hm | exact gap_up' (lt65 (by assumption)) hm | exact div10 (by assumption) hm)
  intro n y4 hm
  exact lp n G y4 h0 hm
theorem pX2_append {v : Nat → Nat} {G0 G : gH} {b : Nat} {O : Nat → Nat → Int32} {P : Nat → Nat → Int64} {a2 : Int32} (h0 : Rch v G0 b O P 3 11 G) {ke : Nat} (hke : ekB ke = true) : Ok (Rch v G0 b O P 3 11) (fX2_append v G (b + 6) (b + ke) a2) := by
  have ze := ekB_iff.mp hke
  unfold fX2_append
  have o1 := h0.oW
  refine Ok.e (gOb_at o1) ?_
  refine Ok.i (fun c2 => ?_) (fun c2 => ?_)
  · refine Ok.b (pX2_appendRows h0 (hke)) (fun x2 h3 => ?_)
    unfold jX2_append_10
    refine Ok.i (fun c4 => ?_) (fun c4 => ?_)
    · have o5 := h3.oE' hke (by omega)
      refine Ok.e (gR_at o5 rfl) ?_
      refine Ok.b (pX2_appendLong h3 ((rkE3 hke)) (by omega)) (fun x3 h6 => ?_)
      have o7 := h6.oE' hke (by omega)
      refine Ok.e (gR_at o7 rfl) ?_
      refine Ok.b (pX2_appendLong h6 ((rkE1 hke)) (by omega)) (fun x6 h8 => ?_)
      unfold jX2_append_35
      have o9 := h8.oE' hke (by omega)
      refine Ok.e (gI_at o9 rfl) ?_
      refine Ok.e (gR_at o9 rfl) ?_
      refine Ok.b (h8.ldE (j := 0) hke (by decide)) (fun _ _ => ?_)
      refine Ok.e (gI_at o9 rfl) ?_
      refine Ok.b (pX2_beginHead h8 ) (fun x5 h10 => ?_)
      refine Ok.b (pX2_setNames h10 (hke)) (fun x7 h11 => ?_)
      have o12 := h11.oE' hke (by omega)
      refine Ok.e (gR_at o12 rfl) ?_
      refine Ok.b (h11.ldE (j := 1) hke (by decide)) (fun _ _ => ?_)
      refine Ok.b (pX2_setNumber h11 ) (fun x11 h13 => ?_)
      have o14 := h13.oE' hke (by omega)
      refine Ok.e (gR_at o14 rfl) ?_
      refine Ok.b (h13.ldE (j := 2) hke (by decide)) (fun _ _ => ?_)
      refine Ok.b (pX2_setNumber h13 ) (fun x15 h15 => ?_)
      have o16 := h15.oE' hke (by omega)
      refine Ok.e (gR_at o16 rfl) ?_
      refine Ok.b (h15.ldE (j := 3) hke (by decide)) (fun _ _ => ?_)
      refine Ok.b (pX2_setNumber h15 ) (fun x19 h17 => ?_)
      refine Ok.b (pX2_seal h17 ) (fun x21 h18 => ?_)
      exact qX2_append_123 h18 (hke) gFu _ (gap_fu _ _)
    · unfold jX2_append_35
      have o19 := h3.oE' hke (by omega)
      refine Ok.e (gI_at o19 rfl) ?_
      refine Ok.e (gR_at o19 rfl) ?_
      refine Ok.b (h3.ldE (j := 0) hke (by decide)) (fun _ _ => ?_)
      refine Ok.e (gI_at o19 rfl) ?_
      refine Ok.b (pX2_beginHead h3 ) (fun x5 h20 => ?_)
      refine Ok.b (pX2_setNames h20 (hke)) (fun x7 h21 => ?_)
      have o22 := h21.oE' hke (by omega)
      refine Ok.e (gR_at o22 rfl) ?_
      refine Ok.b (h21.ldE (j := 1) hke (by decide)) (fun _ _ => ?_)
      refine Ok.b (pX2_setNumber h21 ) (fun x11 h23 => ?_)
      have o24 := h23.oE' hke (by omega)
      refine Ok.e (gR_at o24 rfl) ?_
      refine Ok.b (h23.ldE (j := 2) hke (by decide)) (fun _ _ => ?_)
      refine Ok.b (pX2_setNumber h23 ) (fun x15 h25 => ?_)
      have o26 := h25.oE' hke (by omega)
      refine Ok.e (gR_at o26 rfl) ?_
      refine Ok.b (h25.ldE (j := 3) hke (by decide)) (fun _ _ => ?_)
      refine Ok.b (pX2_setNumber h25 ) (fun x19 h27 => ?_)
      refine Ok.b (pX2_seal h27 ) (fun x21 h28 => ?_)
      exact qX2_append_123 h28 (hke) gFu _ (gap_fu _ _)
  · unfold jX2_append_10
    refine Ok.i (fun c29 => ?_) (fun c29 => ?_)
    · have o30 := h0.oE' hke (by omega)
      refine Ok.e (gR_at o30 rfl) ?_
      refine Ok.b (pX2_appendLong h0 ((rkE3 hke)) (by omega)) (fun x3 h31 => ?_)
      have o32 := h31.oE' hke (by omega)
      refine Ok.e (gR_at o32 rfl) ?_
      refine Ok.b (pX2_appendLong h31 ((rkE1 hke)) (by omega)) (fun x6 h33 => ?_)
      unfold jX2_append_35
      have o34 := h33.oE' hke (by omega)
      refine Ok.e (gI_at o34 rfl) ?_
      refine Ok.e (gR_at o34 rfl) ?_
      refine Ok.b (h33.ldE (j := 0) hke (by decide)) (fun _ _ => ?_)
      refine Ok.e (gI_at o34 rfl) ?_
      refine Ok.b (pX2_beginHead h33 ) (fun x5 h35 => ?_)
      refine Ok.b (pX2_setNames h35 (hke)) (fun x7 h36 => ?_)
      have o37 := h36.oE' hke (by omega)
      refine Ok.e (gR_at o37 rfl) ?_
      refine Ok.b (h36.ldE (j := 1) hke (by decide)) (fun _ _ => ?_)
      refine Ok.b (pX2_setNumber h36 ) (fun x11 h38 => ?_)
      have o39 := h38.oE' hke (by omega)
      refine Ok.e (gR_at o39 rfl) ?_
      refine Ok.b (h38.ldE (j := 2) hke (by decide)) (fun _ _ => ?_)
      refine Ok.b (pX2_setNumber h38 ) (fun x15 h40 => ?_)
      have o41 := h40.oE' hke (by omega)
      refine Ok.e (gR_at o41 rfl) ?_
      refine Ok.b (h40.ldE (j := 3) hke (by decide)) (fun _ _ => ?_)
      refine Ok.b (pX2_setNumber h40 ) (fun x19 h42 => ?_)
      refine Ok.b (pX2_seal h42 ) (fun x21 h43 => ?_)
      exact qX2_append_123 h43 (hke) gFu _ (gap_fu _ _)
    · unfold jX2_append_35
      have o44 := h0.oE' hke (by omega)
      refine Ok.e (gI_at o44 rfl) ?_
      refine Ok.e (gR_at o44 rfl) ?_
      refine Ok.b (h0.ldE (j := 0) hke (by decide)) (fun _ _ => ?_)
      refine Ok.e (gI_at o44 rfl) ?_
      refine Ok.b (pX2_beginHead h0 ) (fun x5 h45 => ?_)
      refine Ok.b (pX2_setNames h45 (hke)) (fun x7 h46 => ?_)
      have o47 := h46.oE' hke (by omega)
      refine Ok.e (gR_at o47 rfl) ?_
      refine Ok.b (h46.ldE (j := 1) hke (by decide)) (fun _ _ => ?_)
      refine Ok.b (pX2_setNumber h46 ) (fun x11 h48 => ?_)
      have o49 := h48.oE' hke (by omega)
      refine Ok.e (gR_at o49 rfl) ?_
      refine Ok.b (h48.ldE (j := 2) hke (by decide)) (fun _ _ => ?_)
      refine Ok.b (pX2_setNumber h48 ) (fun x15 h50 => ?_)
      have o51 := h50.oE' hke (by omega)
      refine Ok.e (gR_at o51 rfl) ?_
      refine Ok.b (h50.ldE (j := 3) hke (by decide)) (fun _ _ => ?_)
      refine Ok.b (pX2_setNumber h50 ) (fun x19 h52 => ?_)
      refine Ok.b (pX2_seal h52 ) (fun x21 h53 => ?_)
      exact qX2_append_123 h53 (hke) gFu _ (gap_fu _ _)
theorem pX3_looksLikeFolder {v : Nat → Nat} {G0 G : gH} {b : Nat} {O : Nat → Nat → Int32} {P : Nat → Nat → Int64} {lo hi : Nat}  (h0 : Rch v G0 b O P lo hi G) {ke : Nat} (hke : ekB ke = true) : Ok (fun x => x = 0 ∨ x = 1) (fX3_looksLikeFolder v G (b + ke)) := by
  have ze := ekB_iff.mp hke
  unfold fX3_looksLikeFolder
  obtain ⟨_, _, _, o1⟩ := h0.oE hke
  refine Ok.e (gOb_at o1) ?_
  refine Ok.e (gI_at o1 rfl) ?_
  refine Ok.i (fun c2 => ?_) (fun c2 => ?_)
  · unfold jX3_looksLikeFolder_28
    refine Ok.e gZ_1 ?_
    exact Ok.s (by first | exact Or.inl rfl | exact Or.inr rfl | assumption | exact And.left (by assumption))
  · refine Ok.e (gI_at o1 rfl) ?_
    refine Ok.i (fun c3 => ?_) (fun c3 => ?_)
    · refine Ok.e (gR_at o1 rfl) ?_
      refine Ok.b (h0.slash (rkE1 hke)) (fun x7 z4 => ?_)
      refine Ok.i (fun c5 => ?_) (fun c5 => ?_)
      · refine Ok.e gZ_0 ?_
        exact Ok.s (by first | exact Or.inl rfl | exact Or.inr rfl | assumption | exact And.left (by assumption))
      · unfold jX3_looksLikeFolder_28
        refine Ok.e gZ_1 ?_
        exact Ok.s (by first | exact Or.inl rfl | exact Or.inr rfl | assumption | exact And.left (by assumption))
    · refine Ok.e gZ_0 ?_
      exact Ok.s (by first | exact Or.inl rfl | exact Or.inr rfl | assumption | exact And.left (by assumption))
theorem pX3_isPlain {v : Nat → Nat} {G0 G : gH} {b : Nat} {O : Nat → Nat → Int32} {P : Nat → Nat → Int64} {lo hi : Nat}  (h0 : Rch v G0 b O P lo hi G) {ke : Nat} (hke : ekB ke = true) : Ok (fun x => x = 0 ∨ x = 1) (fX3_isPlain v G (b + ke)) := by
  have ze := ekB_iff.mp hke
  unfold fX3_isPlain
  obtain ⟨_, _, _, o1⟩ := h0.oE hke
  refine Ok.e (gOb_at o1) ?_
  refine Ok.e (gR_at o1 rfl) ?_
  refine Ok.b (h0.count (rkE3 hke)) (fun x2 hu2 => ?_)
  refine Ok.i (fun c3 => ?_) (fun c3 => ?_)
  · refine Ok.e gZ_0 ?_
    exact Ok.s (by first | exact Or.inl rfl | exact Or.inr rfl | assumption | exact And.left (by assumption))
  · refine Ok.e (gR_at o1 rfl) ?_
    refine Ok.b (h0.ldE (j := 1) hke (by decide)) (fun _ _ => ?_)
    refine Ok.b (pX3_fits h0 ) (fun x8 h4 => ?_)
    refine Ok.i (fun c5 => ?_) (fun c5 => ?_)
    · refine Ok.e gZ_0 ?_
      exact Ok.s (by first | exact Or.inl rfl | exact Or.inr rfl | assumption | exact And.left (by assumption))
    · refine Ok.e (gR_at o1 rfl) ?_
      refine Ok.b (h0.ldE (j := 2) hke (by decide)) (fun _ _ => ?_)
      refine Ok.b (pX3_fits h0 ) (fun x14 h6 => ?_)
      refine Ok.i (fun c7 => ?_) (fun c7 => ?_)
      · refine Ok.e gZ_0 ?_
        exact Ok.s (by first | exact Or.inl rfl | exact Or.inr rfl | assumption | exact And.left (by assumption))
      · refine Ok.e (gR_at o1 rfl) ?_
        refine Ok.b (h0.ldE (j := 3) hke (by decide)) (fun _ _ => ?_)
        refine Ok.b (pX3_fits h0 ) (fun x20 h8 => ?_)
        refine Ok.i (fun c9 => ?_) (fun c9 => ?_)
        · refine Ok.e gZ_0 ?_
          exact Ok.s (by first | exact Or.inl rfl | exact Or.inr rfl | assumption | exact And.left (by assumption))
        · refine Ok.e (gR_at o1 rfl) ?_
          refine Ok.b (h0.ldE (j := 4) hke (by decide)) (fun _ _ => ?_)
          refine Ok.i (fun c10 => ?_) (fun c10 => ?_)
          · refine Ok.e gZ_1 ?_
            exact Ok.s (by first | exact Or.inl rfl | exact Or.inr rfl | assumption | exact And.left (by assumption))
          · refine Ok.e gZ_0 ?_
            exact Ok.s (by first | exact Or.inl rfl | exact Or.inr rfl | assumption | exact And.left (by assumption))
theorem pX3_isOf {v : Nat → Nat} {G0 G : gH} {b : Nat} {O : Nat → Nat → Int32} {P : Nat → Nat → Int64} {lo hi : Nat} {a1 : Int32} (h0 : Rch v G0 b O P lo hi G) {ke : Nat} (hke : ekB ke = true) : Ok (fun x => x = 0 ∨ x = 1) (fX3_isOf v G (b + ke) a1) := by
  have ze := ekB_iff.mp hke
  unfold fX3_isOf
  obtain ⟨_, _, _, o1⟩ := h0.oE hke
  refine Ok.e (gOb_at o1) ?_
  refine Ok.i (fun c2 => ?_) (fun c2 => ?_)
  · refine Ok.b (pX3_looksLikeFolder h0 (hke)) (fun x2 h3 => ?_)
    refine Ok.i (fun c4 => ?_) (fun c4 => ?_)
    · refine Ok.e (gR_at o1 rfl) ?_
      refine Ok.b (h0.count (rkE1 hke)) (fun x7 hu5 => ?_)
      refine Ok.i (fun c6 => ?_) (fun c6 => ?_)
      · refine Ok.e gZ_0 ?_
        exact Ok.s (by first | exact Or.inl rfl | exact Or.inr rfl | assumption | exact And.left (by assumption))
      · refine Ok.b (pX3_isPlain h0 (hke)) (fun x11 h7 => ?_)
        refine Ok.i (fun c8 => ?_) (fun c8 => ?_)
        · refine Ok.e gZ_0 ?_
          exact Ok.s (by first | exact Or.inl rfl | exact Or.inr rfl | assumption | exact And.left (by assumption))
        · refine Ok.e gZ_1 ?_
          exact Ok.s (by first | exact Or.inl rfl | exact Or.inr rfl | assumption | exact And.left (by assumption))
    · refine Ok.e gZ_0 ?_
      exact Ok.s (by first | exact Or.inl rfl | exact Or.inr rfl | assumption | exact And.left (by assumption))
  · refine Ok.i (fun c9 => ?_) (fun c9 => ?_)
    · refine Ok.b (pX3_isNameInFields h0 (hke)) (fun x17 h10 => ?_)
      refine Ok.i (fun c11 => ?_) (fun c11 => ?_)
      · refine Ok.e gZ_0 ?_
        exact Ok.s (by first | exact Or.inl rfl | exact Or.inr rfl | assumption | exact And.left (by assumption))
      · refine Ok.b (pX3_isPlain h0 (hke)) (fun x21 h12 => ?_)
        refine Ok.i (fun c13 => ?_) (fun c13 => ?_)
        · refine Ok.e gZ_0 ?_
          exact Ok.s (by first | exact Or.inl rfl | exact Or.inr rfl | assumption | exact And.left (by assumption))
        · refine Ok.e gZ_1 ?_
          exact Ok.s (by first | exact Or.inl rfl | exact Or.inr rfl | assumption | exact And.left (by assumption))
    · refine Ok.i (fun c14 => ?_) (fun c14 => ?_)
      · refine Ok.e gZ_1 ?_
        exact Ok.s (by first | exact Or.inl rfl | exact Or.inr rfl | assumption | exact And.left (by assumption))
      · refine Ok.e (gR_at o1 rfl) ?_
        refine Ok.b (h0.ldE (j := 4) hke (by decide)) (fun _ _ => ?_)
        refine Ok.i (fun c15 => ?_) (fun c15 => ?_)
        · refine Ok.e gZ_1 ?_
          exact Ok.s (by first | exact Or.inl rfl | exact Or.inr rfl | assumption | exact And.left (by assumption))
        · refine Ok.e gZ_0 ?_
          exact Ok.s (by first | exact Or.inl rfl | exact Or.inr rfl | assumption | exact And.left (by assumption))
